abbrev b_Model_gives : ByteArray := prog_7_method_12_code
def y_Model_gives : MethodName := ⟨R_Model, "gives", "(I)J"⟩
def u_Model_gives : List Cond := Cond.code y_Model_gives b_Model_gives 2 (some .long) :: wG
theorem d_Model_gives_0 : decode b_Model_gives 0 = .ok (.aload_n 0, 1) := by decide +kernel
theorem d_Model_gives_1 : decode b_Model_gives 1 = .ok (.getfield 7, 3) := by decide +kernel
theorem d_Model_gives_4 : decode b_Model_gives 4 = .ok (.iload_n 1, 1) := by decide +kernel
theorem d_Model_gives_5 : decode b_Model_gives 5 = .ok (.laload, 1) := by decide +kernel
theorem d_Model_gives_6 : decode b_Model_gives 6 = .ok (.aload_n 0, 1) := by decide +kernel
theorem d_Model_gives_7 : decode b_Model_gives 7 = .ok (.getfield 36, 3) := by decide +kernel
theorem d_Model_gives_10 : decode b_Model_gives 10 = .ok (.aload_n 0, 1) := by decide +kernel
theorem d_Model_gives_11 : decode b_Model_gives 11 = .ok (.getfield 13, 3) := by decide +kernel
theorem d_Model_gives_14 : decode b_Model_gives 14 = .ok (.iload_n 1, 1) := by decide +kernel
theorem d_Model_gives_15 : decode b_Model_gives 15 = .ok (.iaload, 1) := by decide +kernel
theorem d_Model_gives_16 : decode b_Model_gives 16 = .ok (.laload, 1) := by decide +kernel
theorem d_Model_gives_17 : decode b_Model_gives 17 = .ok (.lmul, 1) := by decide +kernel
theorem d_Model_gives_18 : decode b_Model_gives 18 = .ok (.aload_n 0, 1) := by decide +kernel
theorem d_Model_gives_19 : decode b_Model_gives 19 = .ok (.getfield 39, 3) := by decide +kernel
theorem d_Model_gives_22 : decode b_Model_gives 22 = .ok (.aload_n 0, 1) := by decide +kernel
theorem d_Model_gives_23 : decode b_Model_gives 23 = .ok (.getfield 13, 3) := by decide +kernel
theorem d_Model_gives_26 : decode b_Model_gives 26 = .ok (.iload_n 1, 1) := by decide +kernel
theorem d_Model_gives_27 : decode b_Model_gives 27 = .ok (.iaload, 1) := by decide +kernel
theorem d_Model_gives_28 : decode b_Model_gives 28 = .ok (.laload, 1) := by decide +kernel
theorem d_Model_gives_29 : decode b_Model_gives 29 = .ok (.ldiv, 1) := by decide +kernel
theorem d_Model_gives_30 : decode b_Model_gives 30 = .ok (.lreturn, 1) := by decide +kernel
abbrev b_Model_metreOf : ByteArray := prog_7_method_14_code
def y_Model_metreOf : MethodName := ⟨R_Model, "metreOf", "(I)J"⟩
def u_Model_metreOf : List Cond := Cond.code y_Model_metreOf b_Model_metreOf 2 (some .long) :: wG
theorem d_Model_metreOf_0 : decode b_Model_metreOf 0 = .ok (.iload_n 1, 1) := by decide +kernel
theorem d_Model_metreOf_1 : decode b_Model_metreOf 1 = .ok (.aload_n 0, 1) := by decide +kernel
theorem d_Model_metreOf_2 : decode b_Model_metreOf 2 = .ok (.getfield 99, 3) := by decide +kernel
theorem d_Model_metreOf_5 : decode b_Model_metreOf 5 = .ok (.if_icmp .ge 12, 3) := by decide +kernel
theorem d_Model_metreOf_8 : decode b_Model_metreOf 8 = .ok (.aload_n 0, 1) := by decide +kernel
theorem d_Model_metreOf_9 : decode b_Model_metreOf 9 = .ok (.getfield 20, 3) := by decide +kernel
theorem d_Model_metreOf_12 : decode b_Model_metreOf 12 = .ok (.iload_n 1, 1) := by decide +kernel
theorem d_Model_metreOf_13 : decode b_Model_metreOf 13 = .ok (.laload, 1) := by decide +kernel
theorem d_Model_metreOf_14 : decode b_Model_metreOf 14 = .ok (.goto 14, 3) := by decide +kernel
theorem d_Model_metreOf_17 : decode b_Model_metreOf 17 = .ok (.aload_n 0, 1) := by decide +kernel
theorem d_Model_metreOf_18 : decode b_Model_metreOf 18 = .ok (.getfield 54, 3) := by decide +kernel
theorem d_Model_metreOf_21 : decode b_Model_metreOf 21 = .ok (.iload_n 1, 1) := by decide +kernel
theorem d_Model_metreOf_22 : decode b_Model_metreOf 22 = .ok (.aload_n 0, 1) := by decide +kernel
theorem d_Model_metreOf_23 : decode b_Model_metreOf 23 = .ok (.getfield 99, 3) := by decide +kernel
theorem d_Model_metreOf_26 : decode b_Model_metreOf 26 = .ok (.isub, 1) := by decide +kernel
theorem d_Model_metreOf_27 : decode b_Model_metreOf 27 = .ok (.laload, 1) := by decide +kernel
theorem d_Model_metreOf_28 : decode b_Model_metreOf 28 = .ok (.lreturn, 1) := by decide +kernel
abbrev b_Model_serves : ByteArray := prog_7_method_15_code
def y_Model_serves : MethodName := ⟨R_Model, "serves", "(II)Z"⟩
def u_Model_serves : List Cond := Cond.code y_Model_serves b_Model_serves 3 (some .boolean) :: wG
theorem d_Model_serves_0 : decode b_Model_serves 0 = .ok (.iload_n 1, 1) := by decide +kernel
theorem d_Model_serves_1 : decode b_Model_serves 1 = .ok (.aload_n 0, 1) := by decide +kernel
theorem d_Model_serves_2 : decode b_Model_serves 2 = .ok (.getfield 99, 3) := by decide +kernel
theorem d_Model_serves_5 : decode b_Model_serves 5 = .ok (.if_icmp .ge 37, 3) := by decide +kernel
theorem d_Model_serves_8 : decode b_Model_serves 8 = .ok (.aload_n 0, 1) := by decide +kernel
theorem d_Model_serves_9 : decode b_Model_serves 9 = .ok (.getfield 32, 3) := by decide +kernel
theorem d_Model_serves_12 : decode b_Model_serves 12 = .ok (.bipush 8, 2) := by decide +kernel
theorem d_Model_serves_14 : decode b_Model_serves 14 = .ok (.aload_n 0, 1) := by decide +kernel
theorem d_Model_serves_15 : decode b_Model_serves 15 = .ok (.getfield 13, 3) := by decide +kernel
theorem d_Model_serves_18 : decode b_Model_serves 18 = .ok (.iload_n 1, 1) := by decide +kernel
theorem d_Model_serves_19 : decode b_Model_serves 19 = .ok (.iaload, 1) := by decide +kernel
theorem d_Model_serves_20 : decode b_Model_serves 20 = .ok (.imul, 1) := by decide +kernel
theorem d_Model_serves_21 : decode b_Model_serves 21 = .ok (.iload_n 2, 1) := by decide +kernel
theorem d_Model_serves_22 : decode b_Model_serves 22 = .ok (.iadd, 1) := by decide +kernel
theorem d_Model_serves_23 : decode b_Model_serves 23 = .ok (.baload, 1) := by decide +kernel
theorem d_Model_serves_24 : decode b_Model_serves 24 = .ok (.ifCond .ne 22, 3) := by decide +kernel
theorem d_Model_serves_27 : decode b_Model_serves 27 = .ok (.aload_n 0, 1) := by decide +kernel
theorem d_Model_serves_28 : decode b_Model_serves 28 = .ok (.getfield 17, 3) := by decide +kernel
theorem d_Model_serves_31 : decode b_Model_serves 31 = .ok (.iload_n 1, 1) := by decide +kernel
theorem d_Model_serves_32 : decode b_Model_serves 32 = .ok (.iaload, 1) := by decide +kernel
theorem d_Model_serves_33 : decode b_Model_serves 33 = .ok (.aload_n 0, 1) := by decide +kernel
theorem d_Model_serves_34 : decode b_Model_serves 34 = .ok (.getfield 26, 3) := by decide +kernel
theorem d_Model_serves_37 : decode b_Model_serves 37 = .ok (.iload_n 2, 1) := by decide +kernel
theorem d_Model_serves_38 : decode b_Model_serves 38 = .ok (.iaload, 1) := by decide +kernel
theorem d_Model_serves_39 : decode b_Model_serves 39 = .ok (.if_icmp .gt 7, 3) := by decide +kernel
theorem d_Model_serves_42 : decode b_Model_serves 42 = .ok (.iconst 1, 1) := by decide +kernel
theorem d_Model_serves_43 : decode b_Model_serves 43 = .ok (.goto 4, 3) := by decide +kernel
theorem d_Model_serves_46 : decode b_Model_serves 46 = .ok (.iconst 0, 1) := by decide +kernel
theorem d_Model_serves_47 : decode b_Model_serves 47 = .ok (.ireturn, 1) := by decide +kernel
abbrev b_Model_unit : ByteArray := prog_7_method_16_code
def y_Model_unit : MethodName := ⟨R_Model, "unit", "(III)J"⟩
def u_Model_unit : List Cond := Cond.code y_Model_unit b_Model_unit 15 (some .long) :: wG
theorem d_Model_unit_0 : decode b_Model_unit 0 = .ok (.aload_n 0, 1) := by decide +kernel
theorem d_Model_unit_1 : decode b_Model_unit 1 = .ok (.iload_n 1, 1) := by decide +kernel
theorem d_Model_unit_2 : decode b_Model_unit 2 = .ok (.invokevirtual 118, 3) := by decide +kernel
theorem d_Model_unit_5 : decode b_Model_unit 5 = .ok (.lstore 4, 2) := by decide +kernel
theorem d_Model_unit_7 : decode b_Model_unit 7 = .ok (.aload_n 0, 1) := by decide +kernel
theorem d_Model_unit_8 : decode b_Model_unit 8 = .ok (.getfield 29, 3) := by decide +kernel
theorem d_Model_unit_11 : decode b_Model_unit 11 = .ok (.iload_n 2, 1) := by decide +kernel
theorem d_Model_unit_12 : decode b_Model_unit 12 = .ok (.laload, 1) := by decide +kernel
theorem d_Model_unit_13 : decode b_Model_unit 13 = .ok (.lstore 6, 2) := by decide +kernel
theorem d_Model_unit_15 : decode b_Model_unit 15 = .ok (.lload 4, 2) := by decide +kernel
theorem d_Model_unit_17 : decode b_Model_unit 17 = .ok (.lload 6, 2) := by decide +kernel
theorem d_Model_unit_19 : decode b_Model_unit 19 = .ok (.invokestatic 122, 3) := by decide +kernel
theorem d_Model_unit_22 : decode b_Model_unit 22 = .ok (.lstore 8, 2) := by decide +kernel
theorem d_Model_unit_24 : decode b_Model_unit 24 = .ok (.iconst 0, 1) := by decide +kernel
theorem d_Model_unit_25 : decode b_Model_unit 25 = .ok (.istore 10, 2) := by decide +kernel
theorem d_Model_unit_27 : decode b_Model_unit 27 = .ok (.iload 10, 2) := by decide +kernel
theorem d_Model_unit_29 : decode b_Model_unit 29 = .ok (.aload_n 0, 1) := by decide +kernel
theorem d_Model_unit_30 : decode b_Model_unit 30 = .ok (.getfield 110, 3) := by decide +kernel
theorem d_Model_unit_33 : decode b_Model_unit 33 = .ok (.if_icmp .ge 139, 3) := by decide +kernel
theorem d_Model_unit_36 : decode b_Model_unit 36 = .ok (.lload 4, 2) := by decide +kernel
theorem d_Model_unit_38 : decode b_Model_unit 38 = .ok (.aload_n 0, 1) := by decide +kernel
theorem d_Model_unit_39 : decode b_Model_unit 39 = .ok (.getfield 42, 3) := by decide +kernel
theorem d_Model_unit_42 : decode b_Model_unit 42 = .ok (.iload 10, 2) := by decide +kernel
theorem d_Model_unit_44 : decode b_Model_unit 44 = .ok (.laload, 1) := by decide +kernel
theorem d_Model_unit_45 : decode b_Model_unit 45 = .ok (.invokestatic 122, 3) := by decide +kernel
theorem d_Model_unit_48 : decode b_Model_unit 48 = .ok (.aload_n 0, 1) := by decide +kernel
theorem d_Model_unit_49 : decode b_Model_unit 49 = .ok (.getfield 48, 3) := by decide +kernel
theorem d_Model_unit_52 : decode b_Model_unit 52 = .ok (.iload 10, 2) := by decide +kernel
theorem d_Model_unit_54 : decode b_Model_unit 54 = .ok (.laload, 1) := by decide +kernel
theorem d_Model_unit_55 : decode b_Model_unit 55 = .ok (.ladd, 1) := by decide +kernel
theorem d_Model_unit_56 : decode b_Model_unit 56 = .ok (.aload_n 0, 1) := by decide +kernel
theorem d_Model_unit_57 : decode b_Model_unit 57 = .ok (.getfield 45, 3) := by decide +kernel
theorem d_Model_unit_60 : decode b_Model_unit 60 = .ok (.iload 10, 2) := by decide +kernel
theorem d_Model_unit_62 : decode b_Model_unit 62 = .ok (.laload, 1) := by decide +kernel
theorem d_Model_unit_63 : decode b_Model_unit 63 = .ok (.lload 6, 2) := by decide +kernel
theorem d_Model_unit_65 : decode b_Model_unit 65 = .ok (.invokestatic 122, 3) := by decide +kernel
theorem d_Model_unit_68 : decode b_Model_unit 68 = .ok (.ladd, 1) := by decide +kernel
theorem d_Model_unit_69 : decode b_Model_unit 69 = .ok (.lstore 11, 2) := by decide +kernel
theorem d_Model_unit_71 : decode b_Model_unit 71 = .ok (.lload 4, 2) := by decide +kernel
theorem d_Model_unit_73 : decode b_Model_unit 73 = .ok (.aload_n 0, 1) := by decide +kernel
theorem d_Model_unit_74 : decode b_Model_unit 74 = .ok (.getfield 45, 3) := by decide +kernel
theorem d_Model_unit_77 : decode b_Model_unit 77 = .ok (.iload 10, 2) := by decide +kernel
theorem d_Model_unit_79 : decode b_Model_unit 79 = .ok (.laload, 1) := by decide +kernel
theorem d_Model_unit_80 : decode b_Model_unit 80 = .ok (.invokestatic 122, 3) := by decide +kernel
theorem d_Model_unit_83 : decode b_Model_unit 83 = .ok (.aload_n 0, 1) := by decide +kernel
theorem d_Model_unit_84 : decode b_Model_unit 84 = .ok (.getfield 48, 3) := by decide +kernel
theorem d_Model_unit_87 : decode b_Model_unit 87 = .ok (.iload 10, 2) := by decide +kernel
theorem d_Model_unit_89 : decode b_Model_unit 89 = .ok (.laload, 1) := by decide +kernel
theorem d_Model_unit_90 : decode b_Model_unit 90 = .ok (.ladd, 1) := by decide +kernel
theorem d_Model_unit_91 : decode b_Model_unit 91 = .ok (.aload_n 0, 1) := by decide +kernel
theorem d_Model_unit_92 : decode b_Model_unit 92 = .ok (.getfield 42, 3) := by decide +kernel
theorem d_Model_unit_95 : decode b_Model_unit 95 = .ok (.iload 10, 2) := by decide +kernel
theorem d_Model_unit_97 : decode b_Model_unit 97 = .ok (.laload, 1) := by decide +kernel
theorem d_Model_unit_98 : decode b_Model_unit 98 = .ok (.lload 6, 2) := by decide +kernel
theorem d_Model_unit_100 : decode b_Model_unit 100 = .ok (.invokestatic 122, 3) := by decide +kernel
theorem d_Model_unit_103 : decode b_Model_unit 103 = .ok (.ladd, 1) := by decide +kernel
theorem d_Model_unit_104 : decode b_Model_unit 104 = .ok (.lstore 13, 2) := by decide +kernel
theorem d_Model_unit_106 : decode b_Model_unit 106 = .ok (.iload 10, 2) := by decide +kernel
theorem d_Model_unit_108 : decode b_Model_unit 108 = .ok (.iload_n 3, 1) := by decide +kernel
theorem d_Model_unit_109 : decode b_Model_unit 109 = .ok (.if_icmp .eq 57, 3) := by decide +kernel
theorem d_Model_unit_112 : decode b_Model_unit 112 = .ok (.aload_n 0, 1) := by decide +kernel
theorem d_Model_unit_113 : decode b_Model_unit 113 = .ok (.getfield 51, 3) := by decide +kernel
theorem d_Model_unit_116 : decode b_Model_unit 116 = .ok (.bipush 12, 2) := by decide +kernel
theorem d_Model_unit_118 : decode b_Model_unit 118 = .ok (.iload 10, 2) := by decide +kernel
theorem d_Model_unit_120 : decode b_Model_unit 120 = .ok (.imul, 1) := by decide +kernel
theorem d_Model_unit_121 : decode b_Model_unit 121 = .ok (.aload_n 0, 1) := by decide +kernel
theorem d_Model_unit_122 : decode b_Model_unit 122 = .ok (.getfield 26, 3) := by decide +kernel
theorem d_Model_unit_125 : decode b_Model_unit 125 = .ok (.iload_n 2, 1) := by decide +kernel
theorem d_Model_unit_126 : decode b_Model_unit 126 = .ok (.iaload, 1) := by decide +kernel
theorem d_Model_unit_127 : decode b_Model_unit 127 = .ok (.iadd, 1) := by decide +kernel
theorem d_Model_unit_128 : decode b_Model_unit 128 = .ok (.baload, 1) := by decide +kernel
theorem d_Model_unit_129 : decode b_Model_unit 129 = .ok (.ifCond .ne 37, 3) := by decide +kernel
theorem d_Model_unit_132 : decode b_Model_unit 132 = .ok (.lload 11, 2) := by decide +kernel
theorem d_Model_unit_134 : decode b_Model_unit 134 = .ok (.lload 8, 2) := by decide +kernel
theorem d_Model_unit_136 : decode b_Model_unit 136 = .ok (.lcmp, 1) := by decide +kernel
theorem d_Model_unit_137 : decode b_Model_unit 137 = .ok (.ifCond .ge 8, 3) := by decide +kernel
theorem d_Model_unit_140 : decode b_Model_unit 140 = .ok (.lload 11, 2) := by decide +kernel
theorem d_Model_unit_142 : decode b_Model_unit 142 = .ok (.goto 5, 3) := by decide +kernel
theorem d_Model_unit_145 : decode b_Model_unit 145 = .ok (.lload 8, 2) := by decide +kernel
theorem d_Model_unit_147 : decode b_Model_unit 147 = .ok (.lstore 8, 2) := by decide +kernel
theorem d_Model_unit_149 : decode b_Model_unit 149 = .ok (.lload 13, 2) := by decide +kernel
theorem d_Model_unit_151 : decode b_Model_unit 151 = .ok (.lload 8, 2) := by decide +kernel
theorem d_Model_unit_153 : decode b_Model_unit 153 = .ok (.lcmp, 1) := by decide +kernel
theorem d_Model_unit_154 : decode b_Model_unit 154 = .ok (.ifCond .ge 8, 3) := by decide +kernel
theorem d_Model_unit_157 : decode b_Model_unit 157 = .ok (.lload 13, 2) := by decide +kernel
theorem d_Model_unit_159 : decode b_Model_unit 159 = .ok (.goto 5, 3) := by decide +kernel
theorem d_Model_unit_162 : decode b_Model_unit 162 = .ok (.lload 8, 2) := by decide +kernel
theorem d_Model_unit_164 : decode b_Model_unit 164 = .ok (.lstore 8, 2) := by decide +kernel
theorem d_Model_unit_166 : decode b_Model_unit 166 = .ok (.iinc 10 1, 3) := by decide +kernel
theorem d_Model_unit_169 : decode b_Model_unit 169 = .ok (.goto (-142), 3) := by decide +kernel
theorem d_Model_unit_172 : decode b_Model_unit 172 = .ok (.iload_n 1, 1) := by decide +kernel
theorem d_Model_unit_173 : decode b_Model_unit 173 = .ok (.aload_n 0, 1) := by decide +kernel
theorem d_Model_unit_174 : decode b_Model_unit 174 = .ok (.getfield 99, 3) := by decide +kernel
theorem d_Model_unit_177 : decode b_Model_unit 177 = .ok (.if_icmp .ge 8, 3) := by decide +kernel
theorem d_Model_unit_180 : decode b_Model_unit 180 = .ok (.lload 8, 2) := by decide +kernel
theorem d_Model_unit_182 : decode b_Model_unit 182 = .ok (.goto 17, 3) := by decide +kernel
theorem d_Model_unit_185 : decode b_Model_unit 185 = .ok (.lload 8, 2) := by decide +kernel
theorem d_Model_unit_187 : decode b_Model_unit 187 = .ok (.aload_n 0, 1) := by decide +kernel
theorem d_Model_unit_188 : decode b_Model_unit 188 = .ok (.getfield 57, 3) := by decide +kernel
theorem d_Model_unit_191 : decode b_Model_unit 191 = .ok (.iload_n 1, 1) := by decide +kernel
theorem d_Model_unit_192 : decode b_Model_unit 192 = .ok (.aload_n 0, 1) := by decide +kernel
theorem d_Model_unit_193 : decode b_Model_unit 193 = .ok (.getfield 99, 3) := by decide +kernel
theorem d_Model_unit_196 : decode b_Model_unit 196 = .ok (.isub, 1) := by decide +kernel
theorem d_Model_unit_197 : decode b_Model_unit 197 = .ok (.laload, 1) := by decide +kernel
theorem d_Model_unit_198 : decode b_Model_unit 198 = .ok (.ladd, 1) := by decide +kernel
theorem d_Model_unit_199 : decode b_Model_unit 199 = .ok (.lreturn, 1) := by decide +kernel
abbrev b_Model_goes : ByteArray := prog_7_method_21_code
def y_Model_goes : MethodName := ⟨R_Model, "goes", "(II)J"⟩
def u_Model_goes : List Cond := Cond.code y_Model_goes b_Model_goes 3 (some .long) :: wG
theorem d_Model_goes_0 : decode b_Model_goes 0 = .ok (.aload_n 0, 1) := by decide +kernel
theorem d_Model_goes_1 : decode b_Model_goes 1 = .ok (.iload_n 1, 1) := by decide +kernel
theorem d_Model_goes_2 : decode b_Model_goes 2 = .ok (.iload_n 2, 1) := by decide +kernel
theorem d_Model_goes_3 : decode b_Model_goes 3 = .ok (.invokevirtual 129, 3) := by decide +kernel
theorem d_Model_goes_6 : decode b_Model_goes 6 = .ok (.ifCond .eq 22, 3) := by decide +kernel
theorem d_Model_goes_9 : decode b_Model_goes 9 = .ok (.aload_n 0, 1) := by decide +kernel
theorem d_Model_goes_10 : decode b_Model_goes 10 = .ok (.getfield 69, 3) := by decide +kernel
theorem d_Model_goes_13 : decode b_Model_goes 13 = .ok (.bipush 34, 2) := by decide +kernel
theorem d_Model_goes_15 : decode b_Model_goes 15 = .ok (.bipush 13, 2) := by decide +kernel
theorem d_Model_goes_17 : decode b_Model_goes 17 = .ok (.iload_n 2, 1) := by decide +kernel
theorem d_Model_goes_18 : decode b_Model_goes 18 = .ok (.iadd, 1) := by decide +kernel
theorem d_Model_goes_19 : decode b_Model_goes 19 = .ok (.imul, 1) := by decide +kernel
theorem d_Model_goes_20 : decode b_Model_goes 20 = .ok (.iconst 1, 1) := by decide +kernel
theorem d_Model_goes_21 : decode b_Model_goes 21 = .ok (.iadd, 1) := by decide +kernel
theorem d_Model_goes_22 : decode b_Model_goes 22 = .ok (.iload_n 1, 1) := by decide +kernel
theorem d_Model_goes_23 : decode b_Model_goes 23 = .ok (.iadd, 1) := by decide +kernel
theorem d_Model_goes_24 : decode b_Model_goes 24 = .ok (.laload, 1) := by decide +kernel
theorem d_Model_goes_25 : decode b_Model_goes 25 = .ok (.goto 4, 3) := by decide +kernel
theorem d_Model_goes_28 : decode b_Model_goes 28 = .ok (.lconst 0, 1) := by decide +kernel
theorem d_Model_goes_29 : decode b_Model_goes 29 = .ok (.lreturn, 1) := by decide +kernel
abbrev b_Model_total : ByteArray := prog_7_method_22_code
def y_Model_total : MethodName := ⟨R_Model, "total", "()J"⟩
def u_Model_total : List Cond := Cond.code y_Model_total b_Model_total 5 (some .long) :: wG
theorem d_Model_total_0 : decode b_Model_total 0 = .ok (.lconst 0, 1) := by decide +kernel
theorem d_Model_total_1 : decode b_Model_total 1 = .ok (.lstore_n 1, 1) := by decide +kernel
theorem d_Model_total_2 : decode b_Model_total 2 = .ok (.iconst 0, 1) := by decide +kernel
theorem d_Model_total_3 : decode b_Model_total 3 = .ok (.istore_n 3, 1) := by decide +kernel
theorem d_Model_total_4 : decode b_Model_total 4 = .ok (.iload_n 3, 1) := by decide +kernel
theorem d_Model_total_5 : decode b_Model_total 5 = .ok (.aload_n 0, 1) := by decide +kernel
theorem d_Model_total_6 : decode b_Model_total 6 = .ok (.getfield 99, 3) := by decide +kernel
theorem d_Model_total_9 : decode b_Model_total 9 = .ok (.aload_n 0, 1) := by decide +kernel
theorem d_Model_total_10 : decode b_Model_total 10 = .ok (.getfield 113, 3) := by decide +kernel
theorem d_Model_total_13 : decode b_Model_total 13 = .ok (.iadd, 1) := by decide +kernel
theorem d_Model_total_14 : decode b_Model_total 14 = .ok (.if_icmp .ge 55, 3) := by decide +kernel
theorem d_Model_total_17 : decode b_Model_total 17 = .ok (.iconst 0, 1) := by decide +kernel
theorem d_Model_total_18 : decode b_Model_total 18 = .ok (.istore 4, 2) := by decide +kernel
theorem d_Model_total_20 : decode b_Model_total 20 = .ok (.iload 4, 2) := by decide +kernel
theorem d_Model_total_22 : decode b_Model_total 22 = .ok (.aload_n 0, 1) := by decide +kernel
theorem d_Model_total_23 : decode b_Model_total 23 = .ok (.getfield 105, 3) := by decide +kernel
theorem d_Model_total_26 : decode b_Model_total 26 = .ok (.if_icmp .ge 37, 3) := by decide +kernel
theorem d_Model_total_29 : decode b_Model_total 29 = .ok (.lload_n 1, 1) := by decide +kernel
theorem d_Model_total_30 : decode b_Model_total 30 = .ok (.aload_n 0, 1) := by decide +kernel
theorem d_Model_total_31 : decode b_Model_total 31 = .ok (.iload_n 3, 1) := by decide +kernel
theorem d_Model_total_32 : decode b_Model_total 32 = .ok (.iload 4, 2) := by decide +kernel
theorem d_Model_total_34 : decode b_Model_total 34 = .ok (.invokevirtual 147, 3) := by decide +kernel
theorem d_Model_total_37 : decode b_Model_total 37 = .ok (.aload_n 0, 1) := by decide +kernel
theorem d_Model_total_38 : decode b_Model_total 38 = .ok (.getfield 72, 3) := by decide +kernel
theorem d_Model_total_41 : decode b_Model_total 41 = .ok (.bipush 34, 2) := by decide +kernel
theorem d_Model_total_43 : decode b_Model_total 43 = .ok (.iconst 1, 1) := by decide +kernel
theorem d_Model_total_44 : decode b_Model_total 44 = .ok (.iload_n 3, 1) := by decide +kernel
theorem d_Model_total_45 : decode b_Model_total 45 = .ok (.iadd, 1) := by decide +kernel
theorem d_Model_total_46 : decode b_Model_total 46 = .ok (.imul, 1) := by decide +kernel
theorem d_Model_total_47 : decode b_Model_total 47 = .ok (.bipush 13, 2) := by decide +kernel
theorem d_Model_total_49 : decode b_Model_total 49 = .ok (.iadd, 1) := by decide +kernel
theorem d_Model_total_50 : decode b_Model_total 50 = .ok (.iload 4, 2) := by decide +kernel
theorem d_Model_total_52 : decode b_Model_total 52 = .ok (.iadd, 1) := by decide +kernel
theorem d_Model_total_53 : decode b_Model_total 53 = .ok (.laload, 1) := by decide +kernel
theorem d_Model_total_54 : decode b_Model_total 54 = .ok (.lmul, 1) := by decide +kernel
theorem d_Model_total_55 : decode b_Model_total 55 = .ok (.ladd, 1) := by decide +kernel
theorem d_Model_total_56 : decode b_Model_total 56 = .ok (.lstore_n 1, 1) := by decide +kernel
theorem d_Model_total_57 : decode b_Model_total 57 = .ok (.iinc 4 1, 3) := by decide +kernel
theorem d_Model_total_60 : decode b_Model_total 60 = .ok (.goto (-40), 3) := by decide +kernel
theorem d_Model_total_63 : decode b_Model_total 63 = .ok (.iinc 3 1, 3) := by decide +kernel
theorem d_Model_total_66 : decode b_Model_total 66 = .ok (.goto (-62), 3) := by decide +kernel
theorem d_Model_total_69 : decode b_Model_total 69 = .ok (.lload_n 1, 1) := by decide +kernel
theorem d_Model_total_70 : decode b_Model_total 70 = .ok (.lreturn, 1) := by decide +kernel
abbrev b_Model_wanted : ByteArray := prog_7_method_23_code
def y_Model_wanted : MethodName := ⟨R_Model, "wanted", "()J"⟩
def u_Model_wanted : List Cond := Cond.code y_Model_wanted b_Model_wanted 4 (some .long) :: wG
theorem d_Model_wanted_0 : decode b_Model_wanted 0 = .ok (.lconst 0, 1) := by decide +kernel
theorem d_Model_wanted_1 : decode b_Model_wanted 1 = .ok (.lstore_n 1, 1) := by decide +kernel
theorem d_Model_wanted_2 : decode b_Model_wanted 2 = .ok (.iconst 0, 1) := by decide +kernel
theorem d_Model_wanted_3 : decode b_Model_wanted 3 = .ok (.istore_n 3, 1) := by decide +kernel
theorem d_Model_wanted_4 : decode b_Model_wanted 4 = .ok (.iload_n 3, 1) := by decide +kernel
theorem d_Model_wanted_5 : decode b_Model_wanted 5 = .ok (.aload_n 0, 1) := by decide +kernel
theorem d_Model_wanted_6 : decode b_Model_wanted 6 = .ok (.getfield 105, 3) := by decide +kernel
theorem d_Model_wanted_9 : decode b_Model_wanted 9 = .ok (.if_icmp .ge 18, 3) := by decide +kernel
theorem d_Model_wanted_12 : decode b_Model_wanted 12 = .ok (.lload_n 1, 1) := by decide +kernel
theorem d_Model_wanted_13 : decode b_Model_wanted 13 = .ok (.aload_n 0, 1) := by decide +kernel
theorem d_Model_wanted_14 : decode b_Model_wanted 14 = .ok (.getfield 23, 3) := by decide +kernel
theorem d_Model_wanted_17 : decode b_Model_wanted 17 = .ok (.iload_n 3, 1) := by decide +kernel
theorem d_Model_wanted_18 : decode b_Model_wanted 18 = .ok (.laload, 1) := by decide +kernel
theorem d_Model_wanted_19 : decode b_Model_wanted 19 = .ok (.ladd, 1) := by decide +kernel
theorem d_Model_wanted_20 : decode b_Model_wanted 20 = .ok (.lstore_n 1, 1) := by decide +kernel
theorem d_Model_wanted_21 : decode b_Model_wanted 21 = .ok (.iinc 3 1, 3) := by decide +kernel
theorem d_Model_wanted_24 : decode b_Model_wanted 24 = .ok (.goto (-20), 3) := by decide +kernel
theorem d_Model_wanted_27 : decode b_Model_wanted 27 = .ok (.lload_n 1, 1) := by decide +kernel
theorem d_Model_wanted_28 : decode b_Model_wanted 28 = .ok (.lreturn, 1) := by decide +kernel
abbrev b_Model_lay : ByteArray := prog_7_method_17_code
def y_Model_lay : MethodName := ⟨R_Model, "lay", "(IIJI)V"⟩
def u_Model_lay : List Cond := Cond.code y_Model_lay b_Model_lay 9 none :: wG
theorem d_Model_lay_0 : decode b_Model_lay 0 = .ok (.iconst 0, 1) := by decide +kernel
theorem d_Model_lay_1 : decode b_Model_lay 1 = .ok (.istore 6, 2) := by decide +kernel
theorem d_Model_lay_3 : decode b_Model_lay 3 = .ok (.iload 6, 2) := by decide +kernel
theorem d_Model_lay_5 : decode b_Model_lay 5 = .ok (.sipush 1156, 3) := by decide +kernel
theorem d_Model_lay_8 : decode b_Model_lay 8 = .ok (.if_icmp .ge 25, 3) := by decide +kernel
theorem d_Model_lay_11 : decode b_Model_lay 11 = .ok (.aload_n 0, 1) := by decide +kernel
theorem d_Model_lay_12 : decode b_Model_lay 12 = .ok (.getfield 69, 3) := by decide +kernel
theorem d_Model_lay_15 : decode b_Model_lay 15 = .ok (.iload 6, 2) := by decide +kernel
theorem d_Model_lay_17 : decode b_Model_lay 17 = .ok (.lconst 0, 1) := by decide +kernel
theorem d_Model_lay_18 : decode b_Model_lay 18 = .ok (.lastore, 1) := by decide +kernel
theorem d_Model_lay_19 : decode b_Model_lay 19 = .ok (.aload_n 0, 1) := by decide +kernel
theorem d_Model_lay_20 : decode b_Model_lay 20 = .ok (.getfield 72, 3) := by decide +kernel
theorem d_Model_lay_23 : decode b_Model_lay 23 = .ok (.iload 6, 2) := by decide +kernel
theorem d_Model_lay_25 : decode b_Model_lay 25 = .ok (.lconst 0, 1) := by decide +kernel
theorem d_Model_lay_26 : decode b_Model_lay 26 = .ok (.lastore, 1) := by decide +kernel
theorem d_Model_lay_27 : decode b_Model_lay 27 = .ok (.iinc 6 1, 3) := by decide +kernel
theorem d_Model_lay_30 : decode b_Model_lay 30 = .ok (.goto (-27), 3) := by decide +kernel
theorem d_Model_lay_33 : decode b_Model_lay 33 = .ok (.iconst 0, 1) := by decide +kernel
theorem d_Model_lay_34 : decode b_Model_lay 34 = .ok (.istore 6, 2) := by decide +kernel
theorem d_Model_lay_36 : decode b_Model_lay 36 = .ok (.iload 6, 2) := by decide +kernel
theorem d_Model_lay_38 : decode b_Model_lay 38 = .ok (.aload_n 0, 1) := by decide +kernel
theorem d_Model_lay_39 : decode b_Model_lay 39 = .ok (.getfield 99, 3) := by decide +kernel
theorem d_Model_lay_42 : decode b_Model_lay 42 = .ok (.aload_n 0, 1) := by decide +kernel
theorem d_Model_lay_43 : decode b_Model_lay 43 = .ok (.getfield 113, 3) := by decide +kernel
theorem d_Model_lay_46 : decode b_Model_lay 46 = .ok (.iadd, 1) := by decide +kernel
theorem d_Model_lay_47 : decode b_Model_lay 47 = .ok (.if_icmp .ge 148, 3) := by decide +kernel
theorem d_Model_lay_50 : decode b_Model_lay 50 = .ok (.aload_n 0, 1) := by decide +kernel
theorem d_Model_lay_51 : decode b_Model_lay 51 = .ok (.getfield 69, 3) := by decide +kernel
theorem d_Model_lay_54 : decode b_Model_lay 54 = .ok (.iconst 1, 1) := by decide +kernel
theorem d_Model_lay_55 : decode b_Model_lay 55 = .ok (.iload 6, 2) := by decide +kernel
theorem d_Model_lay_57 : decode b_Model_lay 57 = .ok (.iadd, 1) := by decide +kernel
theorem d_Model_lay_58 : decode b_Model_lay 58 = .ok (.iload 6, 2) := by decide +kernel
theorem d_Model_lay_60 : decode b_Model_lay 60 = .ok (.aload_n 0, 1) := by decide +kernel
theorem d_Model_lay_61 : decode b_Model_lay 61 = .ok (.getfield 99, 3) := by decide +kernel
theorem d_Model_lay_64 : decode b_Model_lay 64 = .ok (.if_icmp .lt 9, 3) := by decide +kernel
theorem d_Model_lay_67 : decode b_Model_lay 67 = .ok (.ldc2_w 81, 3) := by decide +kernel
theorem d_Model_lay_70 : decode b_Model_lay 70 = .ok (.goto 21, 3) := by decide +kernel
theorem d_Model_lay_73 : decode b_Model_lay 73 = .ok (.aload_n 0, 1) := by decide +kernel
theorem d_Model_lay_74 : decode b_Model_lay 74 = .ok (.iload 6, 2) := by decide +kernel
theorem d_Model_lay_76 : decode b_Model_lay 76 = .ok (.invokevirtual 126, 3) := by decide +kernel
theorem d_Model_lay_79 : decode b_Model_lay 79 = .ok (.iload 6, 2) := by decide +kernel
theorem d_Model_lay_81 : decode b_Model_lay 81 = .ok (.iload_n 1, 1) := by decide +kernel
theorem d_Model_lay_82 : decode b_Model_lay 82 = .ok (.if_icmp .ne 7, 3) := by decide +kernel
theorem d_Model_lay_85 : decode b_Model_lay 85 = .ok (.lconst 1, 1) := by decide +kernel
theorem d_Model_lay_86 : decode b_Model_lay 86 = .ok (.goto 4, 3) := by decide +kernel
theorem d_Model_lay_89 : decode b_Model_lay 89 = .ok (.lconst 0, 1) := by decide +kernel
theorem d_Model_lay_90 : decode b_Model_lay 90 = .ok (.lsub, 1) := by decide +kernel
theorem d_Model_lay_91 : decode b_Model_lay 91 = .ok (.lastore, 1) := by decide +kernel
theorem d_Model_lay_92 : decode b_Model_lay 92 = .ok (.iconst 0, 1) := by decide +kernel
theorem d_Model_lay_93 : decode b_Model_lay 93 = .ok (.istore 7, 2) := by decide +kernel
theorem d_Model_lay_95 : decode b_Model_lay 95 = .ok (.iload 7, 2) := by decide +kernel
theorem d_Model_lay_97 : decode b_Model_lay 97 = .ok (.aload_n 0, 1) := by decide +kernel
theorem d_Model_lay_98 : decode b_Model_lay 98 = .ok (.getfield 105, 3) := by decide +kernel
theorem d_Model_lay_101 : decode b_Model_lay 101 = .ok (.if_icmp .ge 88, 3) := by decide +kernel
theorem d_Model_lay_104 : decode b_Model_lay 104 = .ok (.aload_n 0, 1) := by decide +kernel
theorem d_Model_lay_105 : decode b_Model_lay 105 = .ok (.iload 6, 2) := by decide +kernel
theorem d_Model_lay_107 : decode b_Model_lay 107 = .ok (.iload 7, 2) := by decide +kernel
theorem d_Model_lay_109 : decode b_Model_lay 109 = .ok (.invokevirtual 129, 3) := by decide +kernel
theorem d_Model_lay_112 : decode b_Model_lay 112 = .ok (.ifCond .eq 71, 3) := by decide +kernel
theorem d_Model_lay_115 : decode b_Model_lay 115 = .ok (.bipush 34, 2) := by decide +kernel
theorem d_Model_lay_117 : decode b_Model_lay 117 = .ok (.iconst 1, 1) := by decide +kernel
theorem d_Model_lay_118 : decode b_Model_lay 118 = .ok (.iload 6, 2) := by decide +kernel
theorem d_Model_lay_120 : decode b_Model_lay 120 = .ok (.iadd, 1) := by decide +kernel
theorem d_Model_lay_121 : decode b_Model_lay 121 = .ok (.imul, 1) := by decide +kernel
theorem d_Model_lay_122 : decode b_Model_lay 122 = .ok (.bipush 13, 2) := by decide +kernel
theorem d_Model_lay_124 : decode b_Model_lay 124 = .ok (.iadd, 1) := by decide +kernel
theorem d_Model_lay_125 : decode b_Model_lay 125 = .ok (.iload 7, 2) := by decide +kernel
theorem d_Model_lay_127 : decode b_Model_lay 127 = .ok (.iadd, 1) := by decide +kernel
theorem d_Model_lay_128 : decode b_Model_lay 128 = .ok (.istore 8, 2) := by decide +kernel
theorem d_Model_lay_130 : decode b_Model_lay 130 = .ok (.aload_n 0, 1) := by decide +kernel
theorem d_Model_lay_131 : decode b_Model_lay 131 = .ok (.getfield 69, 3) := by decide +kernel
theorem d_Model_lay_134 : decode b_Model_lay 134 = .ok (.iload 8, 2) := by decide +kernel
theorem d_Model_lay_136 : decode b_Model_lay 136 = .ok (.ldc2_w 81, 3) := by decide +kernel
theorem d_Model_lay_139 : decode b_Model_lay 139 = .ok (.lastore, 1) := by decide +kernel
theorem d_Model_lay_140 : decode b_Model_lay 140 = .ok (.aload_n 0, 1) := by decide +kernel
theorem d_Model_lay_141 : decode b_Model_lay 141 = .ok (.getfield 72, 3) := by decide +kernel
theorem d_Model_lay_144 : decode b_Model_lay 144 = .ok (.iload 8, 2) := by decide +kernel
theorem d_Model_lay_146 : decode b_Model_lay 146 = .ok (.aload_n 0, 1) := by decide +kernel
theorem d_Model_lay_147 : decode b_Model_lay 147 = .ok (.iload 6, 2) := by decide +kernel
theorem d_Model_lay_149 : decode b_Model_lay 149 = .ok (.iload 7, 2) := by decide +kernel
theorem d_Model_lay_151 : decode b_Model_lay 151 = .ok (.iload 5, 2) := by decide +kernel
theorem d_Model_lay_153 : decode b_Model_lay 153 = .ok (.invokevirtual 133, 3) := by decide +kernel
theorem d_Model_lay_156 : decode b_Model_lay 156 = .ok (.lastore, 1) := by decide +kernel
theorem d_Model_lay_157 : decode b_Model_lay 157 = .ok (.aload_n 0, 1) := by decide +kernel
theorem d_Model_lay_158 : decode b_Model_lay 158 = .ok (.getfield 72, 3) := by decide +kernel
theorem d_Model_lay_161 : decode b_Model_lay 161 = .ok (.bipush 34, 2) := by decide +kernel
theorem d_Model_lay_163 : decode b_Model_lay 163 = .ok (.bipush 13, 2) := by decide +kernel
theorem d_Model_lay_165 : decode b_Model_lay 165 = .ok (.iload 7, 2) := by decide +kernel
theorem d_Model_lay_167 : decode b_Model_lay 167 = .ok (.iadd, 1) := by decide +kernel
theorem d_Model_lay_168 : decode b_Model_lay 168 = .ok (.imul, 1) := by decide +kernel
theorem d_Model_lay_169 : decode b_Model_lay 169 = .ok (.iconst 1, 1) := by decide +kernel
theorem d_Model_lay_170 : decode b_Model_lay 170 = .ok (.iadd, 1) := by decide +kernel
theorem d_Model_lay_171 : decode b_Model_lay 171 = .ok (.iload 6, 2) := by decide +kernel
theorem d_Model_lay_173 : decode b_Model_lay 173 = .ok (.iadd, 1) := by decide +kernel
theorem d_Model_lay_174 : decode b_Model_lay 174 = .ok (.aload_n 0, 1) := by decide +kernel
theorem d_Model_lay_175 : decode b_Model_lay 175 = .ok (.getfield 72, 3) := by decide +kernel
theorem d_Model_lay_178 : decode b_Model_lay 178 = .ok (.iload 8, 2) := by decide +kernel
theorem d_Model_lay_180 : decode b_Model_lay 180 = .ok (.laload, 1) := by decide +kernel
theorem d_Model_lay_181 : decode b_Model_lay 181 = .ok (.lneg, 1) := by decide +kernel
theorem d_Model_lay_182 : decode b_Model_lay 182 = .ok (.lastore, 1) := by decide +kernel
theorem d_Model_lay_183 : decode b_Model_lay 183 = .ok (.iinc 7 1, 3) := by decide +kernel
theorem d_Model_lay_186 : decode b_Model_lay 186 = .ok (.goto (-91), 3) := by decide +kernel
theorem d_Model_lay_189 : decode b_Model_lay 189 = .ok (.iinc 6 1, 3) := by decide +kernel
theorem d_Model_lay_192 : decode b_Model_lay 192 = .ok (.goto (-156), 3) := by decide +kernel
theorem d_Model_lay_195 : decode b_Model_lay 195 = .ok (.iconst 0, 1) := by decide +kernel
theorem d_Model_lay_196 : decode b_Model_lay 196 = .ok (.istore 6, 2) := by decide +kernel
theorem d_Model_lay_198 : decode b_Model_lay 198 = .ok (.iload 6, 2) := by decide +kernel
theorem d_Model_lay_200 : decode b_Model_lay 200 = .ok (.aload_n 0, 1) := by decide +kernel
theorem d_Model_lay_201 : decode b_Model_lay 201 = .ok (.getfield 105, 3) := by decide +kernel
theorem d_Model_lay_204 : decode b_Model_lay 204 = .ok (.if_icmp .ge 52, 3) := by decide +kernel
theorem d_Model_lay_207 : decode b_Model_lay 207 = .ok (.aload_n 0, 1) := by decide +kernel
theorem d_Model_lay_208 : decode b_Model_lay 208 = .ok (.getfield 69, 3) := by decide +kernel
theorem d_Model_lay_211 : decode b_Model_lay 211 = .ok (.bipush 34, 2) := by decide +kernel
theorem d_Model_lay_213 : decode b_Model_lay 213 = .ok (.bipush 13, 2) := by decide +kernel
theorem d_Model_lay_215 : decode b_Model_lay 215 = .ok (.iload 6, 2) := by decide +kernel
theorem d_Model_lay_217 : decode b_Model_lay 217 = .ok (.iadd, 1) := by decide +kernel
theorem d_Model_lay_218 : decode b_Model_lay 218 = .ok (.imul, 1) := by decide +kernel
theorem d_Model_lay_219 : decode b_Model_lay 219 = .ok (.bipush 21, 2) := by decide +kernel
theorem d_Model_lay_221 : decode b_Model_lay 221 = .ok (.iadd, 1) := by decide +kernel
theorem d_Model_lay_222 : decode b_Model_lay 222 = .ok (.aload_n 0, 1) := by decide +kernel
theorem d_Model_lay_223 : decode b_Model_lay 223 = .ok (.getfield 26, 3) := by decide +kernel
theorem d_Model_lay_226 : decode b_Model_lay 226 = .ok (.iload 6, 2) := by decide +kernel
theorem d_Model_lay_228 : decode b_Model_lay 228 = .ok (.iaload, 1) := by decide +kernel
theorem d_Model_lay_229 : decode b_Model_lay 229 = .ok (.iadd, 1) := by decide +kernel
theorem d_Model_lay_230 : decode b_Model_lay 230 = .ok (.aload_n 0, 1) := by decide +kernel
theorem d_Model_lay_231 : decode b_Model_lay 231 = .ok (.getfield 23, 3) := by decide +kernel
theorem d_Model_lay_234 : decode b_Model_lay 234 = .ok (.iload 6, 2) := by decide +kernel
theorem d_Model_lay_236 : decode b_Model_lay 236 = .ok (.laload, 1) := by decide +kernel
theorem d_Model_lay_237 : decode b_Model_lay 237 = .ok (.iload 6, 2) := by decide +kernel
theorem d_Model_lay_239 : decode b_Model_lay 239 = .ok (.iload_n 2, 1) := by decide +kernel
theorem d_Model_lay_240 : decode b_Model_lay 240 = .ok (.if_icmp .ne 7, 3) := by decide +kernel
theorem d_Model_lay_243 : decode b_Model_lay 243 = .ok (.lload_n 3, 1) := by decide +kernel
theorem d_Model_lay_244 : decode b_Model_lay 244 = .ok (.goto 4, 3) := by decide +kernel
theorem d_Model_lay_247 : decode b_Model_lay 247 = .ok (.lconst 0, 1) := by decide +kernel
theorem d_Model_lay_248 : decode b_Model_lay 248 = .ok (.ladd, 1) := by decide +kernel
theorem d_Model_lay_249 : decode b_Model_lay 249 = .ok (.lastore, 1) := by decide +kernel
theorem d_Model_lay_250 : decode b_Model_lay 250 = .ok (.iinc 6 1, 3) := by decide +kernel
theorem d_Model_lay_253 : decode b_Model_lay 253 = .ok (.goto (-55), 3) := by decide +kernel
theorem d_Model_lay_256 : decode b_Model_lay 256 = .ok (.iconst 0, 1) := by decide +kernel
theorem d_Model_lay_257 : decode b_Model_lay 257 = .ok (.istore 6, 2) := by decide +kernel
theorem d_Model_lay_259 : decode b_Model_lay 259 = .ok (.iload 6, 2) := by decide +kernel
theorem d_Model_lay_261 : decode b_Model_lay 261 = .ok (.bipush 12, 2) := by decide +kernel
theorem d_Model_lay_263 : decode b_Model_lay 263 = .ok (.if_icmp .ge 32, 3) := by decide +kernel
theorem d_Model_lay_266 : decode b_Model_lay 266 = .ok (.aload_n 0, 1) := by decide +kernel
theorem d_Model_lay_267 : decode b_Model_lay 267 = .ok (.getfield 69, 3) := by decide +kernel
theorem d_Model_lay_270 : decode b_Model_lay 270 = .ok (.bipush 34, 2) := by decide +kernel
theorem d_Model_lay_272 : decode b_Model_lay 272 = .ok (.bipush 21, 2) := by decide +kernel
theorem d_Model_lay_274 : decode b_Model_lay 274 = .ok (.iload 6, 2) := by decide +kernel
theorem d_Model_lay_276 : decode b_Model_lay 276 = .ok (.iadd, 1) := by decide +kernel
theorem d_Model_lay_277 : decode b_Model_lay 277 = .ok (.imul, 1) := by decide +kernel
theorem d_Model_lay_278 : decode b_Model_lay 278 = .ok (.bipush 33, 2) := by decide +kernel
theorem d_Model_lay_280 : decode b_Model_lay 280 = .ok (.iadd, 1) := by decide +kernel
theorem d_Model_lay_281 : decode b_Model_lay 281 = .ok (.aload_n 0, 1) := by decide +kernel
theorem d_Model_lay_282 : decode b_Model_lay 282 = .ok (.getfield 60, 3) := by decide +kernel
theorem d_Model_lay_285 : decode b_Model_lay 285 = .ok (.iload 6, 2) := by decide +kernel
theorem d_Model_lay_287 : decode b_Model_lay 287 = .ok (.laload, 1) := by decide +kernel
theorem d_Model_lay_288 : decode b_Model_lay 288 = .ok (.lastore, 1) := by decide +kernel
theorem d_Model_lay_289 : decode b_Model_lay 289 = .ok (.iinc 6 1, 3) := by decide +kernel
theorem d_Model_lay_292 : decode b_Model_lay 292 = .ok (.goto (-33), 3) := by decide +kernel
theorem d_Model_lay_295 : decode b_Model_lay 295 = .ok (.return_, 1) := by decide +kernel
def f_Model_gives (NM0 : Nat → Nat) (LM0 : Nat → Int64) (LM4 : Nat → Int64) (LM5 : Nat → Int64) (x1 : Nat) : Int64 :=
  (((LM0 x1) * (LM4 (NM0 x1))) / (LM5 (NM0 x1)))
set_option maxHeartbeats 4000000 in
set_option maxRecDepth 100000 in
theorem c_Model_gives (l : Launch) (dC : Nat → ClassId) (dI : Nat → Nat → Nat) (cI cJ cZ : ClassId) (sz : Nat) (aM : Nat → Nat) (VM0 : Nat) (VM1 : Nat) (VM2 : Nat) (VM3 : Nat) (VM4 : Nat) (VM5 : Nat) (WM0 : Int64) (NM0 : Nat → Nat) (NM1 : Nat → Nat) (NM2 : Nat → Nat) (LM0 : Nat → Int64) (LM1 : Nat → Int64) (LM2 : Nat → Int64) (LM3 : Nat → Int64) (LM4 : Nat → Int64) (LM5 : Nat → Int64) (LM6 : Nat → Int64) (LM7 : Nat → Int64) (LM8 : Nat → Int64) (LM9 : Nat → Int64) (LM10 : Nat → Int64) (LM11 : Nat → Int64) (LM12 : Nat → Int64) (LM13 : Nat → Int64) (LM14 : Nat → Int64) (LM15 : Nat → Int64) (IM0 : Nat → Int32) (IM1 : Nat → Int32) (IM2 : Nat → Int32) (IM3 : Nat → Int32) (x1 : Nat) (mk4 : ∀ i, NM0 i < 4) (msb : ∀ i, i < 4 → ¬ LM5 i = 0) (hx1 : x1 < 8) : hh_Cl l y_Model_gives u_Model_gives ({ frames := 0, cells := 0, slots := 0, locals := 0 }) (dC, dI) vwCl [(cI, .int), (cJ, .long), (cZ, .boolean)] (w_M cI cJ cZ aM VM0 VM1 VM2 VM3 VM4 VM5 WM0 NM0 NM1 NM2 LM0 LM1 LM2 LM3 LM4 LM5 LM6 LM7 LM8 LM9 LM10 LM11 LM12 LM13 LM14 LM15 IM0 IM1 IM2 IM3) sz [.ref (aM 0), .int (nI x1)] (f_Model_gives NM0 LM0 LM4 LM5 x1) (w_M cI cJ cZ aM VM0 VM1 VM2 VM3 VM4 VM5 WM0 NM0 NM1 NM2 LM0 LM1 LM2 LM3 LM4 LM5 LM6 LM7 LM8 LM9 LM10 LM11 LM12 LM13 LM14 LM15 IM0 IM1 IM2 IM3) 0 0 := by
  unfold hh_Cl
  refine Met.ofW (cc := b_Model_gives) (maxL := 2) (ret := (some .long)) (by decide) rfl ?_
  intro p e s m args below meth c s₁ B hml hv
  obtain ⟨rfl, hsz, hP, hK, hD0⟩ := hv
  have hx := B.exec
  have hb := B.bytes
  have hr := B.returns
  have hts := atoms_spec (ws := u_Model_gives) B.pre
  have hG : ∀ w ∈ wG, w.before ([.ref (aM 0), .int (nI x1)]).toArray s = true := fun w h => hts w (List.mem_cons_of_mem _ h)
  have hown : s.vm.findClass R_Model = some m.cls := findClass_of_methodNamed B.named
  have hlocks := B.notSynchronized
  subst hsz
  have hD := hD0.self (sz := s.heap.size)
  generalize hAe : va_A (w_M cI cJ cZ aM VM0 VM1 VM2 VM3 VM4 VM5 WM0 NM0 NM1 NM2 LM0 LM1 LM2 LM3 LM4 LM5 LM6 LM7 LM8 LM9 LM10 LM11 LM12 LM13 LM14 LM15 IM0 IM1 IM2 IM3) s.heap.size = A at hD ⊢
  have hA : ∀ q : Nat, s.heap.size ≤ q → A q := fun q h => by rw [← hAe]; exact Or.inr h
  have hS : va_S A s.heap s.heap [] := va_S.rf
  have hl := lv_entry ([.ref (aM 0), .int (nI x1)]) (n := 2) (Nat.le_of_ble_eq_true rfl)
  rw [lg_entry_eq]
  generalize (lg_sl ([.ref (aM 0), .int (nI x1)]) ++ List.replicate (2 - (lg_sl ([.ref (aM 0), .int (nI x1)])).length) Slot.unset).toArray = ls at hl ⊢
  have hl : lv_has ls 2 [(0, .ref (aM 0)), (1, .int (nI x1))] := hl
  generalize hR : f_Model_gives NM0 LM0 LM4 LM5 x1 = r0
  obtain ⟨H, locs, hHe, hle⟩ : ∃ (H : Heap) (locs : List Loc), s.heap = H ∧ [] = locs := ⟨_, _, rfl, rfl⟩
  have hP : va_P (dC, dI) vwCl (w_M cI cJ cZ aM VM0 VM1 VM2 VM3 VM4 VM5 WM0 NM0 NM1 NM2 LM0 LM1 LM2 LM3 LM4 LM5 LM6 LM7 LM8 LM9 LM10 LM11 LM12 LM13 LM14 LM15 IM0 IM1 IM2 IM3) H := by rw [← hHe]; exact hP
  have hS : va_S A s.heap H locs := by rw [← hHe, ← hle]; exact hS
  refine hw_start hHe hle ?_
  unfold f_Model_gives at hR
  refine lv_aload_n hx hb d_Model_gives_0 rfl (lv_at hl 0 rfl) ?_
  refine va_get (D := (dC, dI)) (ci := 5) (v := .ref (aM 1)) (C := R_Model) (T := T_Model) (N := 30) hx hb hG in_Model hown hK hP 0 rfl rfl 2 (by decide) (hG _ m_616) (fun _ h9 => h9) rfl d_Model_gives_1 ?_
  refine lv_iload_n hx hb d_Model_gives_4 rfl (lv_at hl 1 rfl) ?_
  refine hw_lald (f := LM0) hx hb hK hP 1 1 rfl rfl (by decide) (by omega) d_Model_gives_5 ?_
  refine lv_aload_n hx hb d_Model_gives_6 rfl (lv_at hl 0 rfl) ?_
  refine va_get (D := (dC, dI)) (ci := 5) (v := .ref (aM 9)) (C := R_Model) (T := T_Model) (N := 30) hx hb hG in_Model hown hK hP 0 rfl rfl 11 (by decide) (hG _ m_625) (fun _ h9 => h9) rfl d_Model_gives_7 ?_
  refine lv_aload_n hx hb d_Model_gives_10 rfl (lv_at hl 0 rfl) ?_
  refine va_get (D := (dC, dI)) (ci := 5) (v := .ref (aM 2)) (C := R_Model) (T := T_Model) (N := 30) hx hb hG in_Model hown hK hP 0 rfl rfl 3 (by decide) (hG _ m_617) (fun _ h9 => h9) rfl d_Model_gives_11 ?_
  refine lv_iload_n hx hb d_Model_gives_14 rfl (lv_at hl 1 rfl) ?_
  refine hw_nald (g := NM0) hx hb hK hP 2 0 rfl rfl (by decide) (by omega) d_Model_gives_15 ?_
  have hb15 := mk4 x1
  refine hw_lald (f := LM4) hx hb hK hP 9 1 rfl rfl (by decide) (by omega) d_Model_gives_16 ?_
  refine lv_lmul hx hb d_Model_gives_17 ?_
  refine lv_aload_n hx hb d_Model_gives_18 rfl (lv_at hl 0 rfl) ?_
  refine va_get (D := (dC, dI)) (ci := 5) (v := .ref (aM 10)) (C := R_Model) (T := T_Model) (N := 30) hx hb hG in_Model hown hK hP 0 rfl rfl 12 (by decide) (hG _ m_626) (fun _ h9 => h9) rfl d_Model_gives_19 ?_
  refine lv_aload_n hx hb d_Model_gives_22 rfl (lv_at hl 0 rfl) ?_
  refine va_get (D := (dC, dI)) (ci := 5) (v := .ref (aM 2)) (C := R_Model) (T := T_Model) (N := 30) hx hb hG in_Model hown hK hP 0 rfl rfl 3 (by decide) (hG _ m_617) (fun _ h9 => h9) rfl d_Model_gives_23 ?_
  refine lv_iload_n hx hb d_Model_gives_26 rfl (lv_at hl 1 rfl) ?_
  refine hw_nald (g := NM0) hx hb hK hP 2 0 rfl rfl (by decide) (by omega) d_Model_gives_27 ?_
  have hb27 := mk4 x1
  refine hw_lald (f := LM5) hx hb hK hP 10 1 rfl rfl (by decide) (by omega) d_Model_gives_28 ?_
  refine lv_ldiv hx hb d_Model_gives_29 (msb _ hb27) ?_
  subst hR
  exact W.lret (v := ((LM0 x1) * (LM4 (NM0 x1))) / (LM5 (NM0 x1))) hx hb hr (fun t ht hW => ⟨⟨_, (), rfl, rfl, by rw [ht]; exact hP, va_K.moved hW.alike hK, hD⟩, hS.F ht⟩) hS.2.2 d_Model_gives_30
def f_Model_metreOf (VM1 : Nat) (LM1 : Nat → Int64) (LM9 : Nat → Int64) (x1 : Nat) : Int64 :=
  if VM1 ≤ x1 then (LM9 (x1 - VM1)) else (LM1 x1)
set_option maxHeartbeats 4000000 in
set_option maxRecDepth 100000 in
theorem c_Model_metreOf (l : Launch) (dC : Nat → ClassId) (dI : Nat → Nat → Nat) (cI cJ cZ : ClassId) (sz : Nat) (aM : Nat → Nat) (VM0 : Nat) (VM1 : Nat) (VM2 : Nat) (VM3 : Nat) (VM4 : Nat) (VM5 : Nat) (WM0 : Int64) (NM0 : Nat → Nat) (NM1 : Nat → Nat) (NM2 : Nat → Nat) (LM0 : Nat → Int64) (LM1 : Nat → Int64) (LM2 : Nat → Int64) (LM3 : Nat → Int64) (LM4 : Nat → Int64) (LM5 : Nat → Int64) (LM6 : Nat → Int64) (LM7 : Nat → Int64) (LM8 : Nat → Int64) (LM9 : Nat → Int64) (LM10 : Nat → Int64) (LM11 : Nat → Int64) (LM12 : Nat → Int64) (LM13 : Nat → Int64) (LM14 : Nat → Int64) (LM15 : Nat → Int64) (IM0 : Nat → Int32) (IM1 : Nat → Int32) (IM2 : Nat → Int32) (IM3 : Nat → Int32) (x1 : Nat) (m1 : VM1 ≤ 8) (m4 : VM4 ≤ 4) (hx1 : x1 < (VM1 + VM4)) : hh_Cl l y_Model_metreOf u_Model_metreOf ({ frames := 0, cells := 0, slots := 0, locals := 0 }) (dC, dI) vwCl [(cI, .int), (cJ, .long), (cZ, .boolean)] (w_M cI cJ cZ aM VM0 VM1 VM2 VM3 VM4 VM5 WM0 NM0 NM1 NM2 LM0 LM1 LM2 LM3 LM4 LM5 LM6 LM7 LM8 LM9 LM10 LM11 LM12 LM13 LM14 LM15 IM0 IM1 IM2 IM3) sz [.ref (aM 0), .int (nI x1)] (f_Model_metreOf VM1 LM1 LM9 x1) (w_M cI cJ cZ aM VM0 VM1 VM2 VM3 VM4 VM5 WM0 NM0 NM1 NM2 LM0 LM1 LM2 LM3 LM4 LM5 LM6 LM7 LM8 LM9 LM10 LM11 LM12 LM13 LM14 LM15 IM0 IM1 IM2 IM3) 0 0 := by
  unfold hh_Cl
  refine Met.ofW (cc := b_Model_metreOf) (maxL := 2) (ret := (some .long)) (by decide) rfl ?_
  intro p e s m args below meth c s₁ B hml hv
  obtain ⟨rfl, hsz, hP, hK, hD0⟩ := hv
  have hx := B.exec
  have hb := B.bytes
  have hr := B.returns
  have hts := atoms_spec (ws := u_Model_metreOf) B.pre
  have hG : ∀ w ∈ wG, w.before ([.ref (aM 0), .int (nI x1)]).toArray s = true := fun w h => hts w (List.mem_cons_of_mem _ h)
  have hown : s.vm.findClass R_Model = some m.cls := findClass_of_methodNamed B.named
  have hlocks := B.notSynchronized
  subst hsz
  have hD := hD0.self (sz := s.heap.size)
  generalize hAe : va_A (w_M cI cJ cZ aM VM0 VM1 VM2 VM3 VM4 VM5 WM0 NM0 NM1 NM2 LM0 LM1 LM2 LM3 LM4 LM5 LM6 LM7 LM8 LM9 LM10 LM11 LM12 LM13 LM14 LM15 IM0 IM1 IM2 IM3) s.heap.size = A at hD ⊢
  have hA : ∀ q : Nat, s.heap.size ≤ q → A q := fun q h => by rw [← hAe]; exact Or.inr h
  have hS : va_S A s.heap s.heap [] := va_S.rf
  have hl := lv_entry ([.ref (aM 0), .int (nI x1)]) (n := 2) (Nat.le_of_ble_eq_true rfl)
  rw [lg_entry_eq]
  generalize (lg_sl ([.ref (aM 0), .int (nI x1)]) ++ List.replicate (2 - (lg_sl ([.ref (aM 0), .int (nI x1)])).length) Slot.unset).toArray = ls at hl ⊢
  have hl : lv_has ls 2 [(0, .ref (aM 0)), (1, .int (nI x1))] := hl
  generalize hR : f_Model_metreOf VM1 LM1 LM9 x1 = r0
  obtain ⟨H, locs, hHe, hle⟩ : ∃ (H : Heap) (locs : List Loc), s.heap = H ∧ [] = locs := ⟨_, _, rfl, rfl⟩
  have hP : va_P (dC, dI) vwCl (w_M cI cJ cZ aM VM0 VM1 VM2 VM3 VM4 VM5 WM0 NM0 NM1 NM2 LM0 LM1 LM2 LM3 LM4 LM5 LM6 LM7 LM8 LM9 LM10 LM11 LM12 LM13 LM14 LM15 IM0 IM1 IM2 IM3) H := by rw [← hHe]; exact hP
  have hS : va_S A s.heap H locs := by rw [← hHe, ← hle]; exact hS
  refine hw_start hHe hle ?_
  unfold f_Model_metreOf at hR
  refine lv_iload_n hx hb d_Model_metreOf_0 rfl (lv_at hl 1 rfl) ?_
  refine lv_aload_n hx hb d_Model_metreOf_1 rfl (lv_at hl 0 rfl) ?_
  refine va_get (D := (dC, dI)) (ci := 5) (v := .int (nI VM1)) (C := R_Model) (T := T_Model) (N := 30) hx hb hG in_Model hown hK hP 0 rfl rfl 1 (by decide) (hG _ m_615) (fun _ h9 => h9) rfl d_Model_metreOf_2 ?_
  refine hw_icmp_ge (tgt := 17) hx hb d_Model_metreOf_5 (by decide) (by omega) (by omega) (fun c5 => ?_) (fun c5 => ?_)
  · replace hR := (if_pos c5).symm.trans hR
    refine lv_aload_n hx hb d_Model_metreOf_17 rfl (lv_at hl 0 rfl) ?_
    refine va_get (D := (dC, dI)) (ci := 5) (v := .ref (aM 15)) (C := R_Model) (T := T_Model) (N := 30) hx hb hG in_Model hown hK hP 0 rfl rfl 19 (by decide) (hG _ m_633) (fun _ h9 => h9) rfl d_Model_metreOf_18 ?_
    refine lv_iload_n hx hb d_Model_metreOf_21 rfl (lv_at hl 1 rfl) ?_
    refine lv_aload_n hx hb d_Model_metreOf_22 rfl (lv_at hl 0 rfl) ?_
    refine va_get (D := (dC, dI)) (ci := 5) (v := .int (nI VM1)) (C := R_Model) (T := T_Model) (N := 30) hx hb hG in_Model hown hK hP 0 rfl rfl 1 (by decide) (hG _ m_615) (fun _ h9 => h9) rfl d_Model_metreOf_23 ?_
    refine hw_isub hx hb d_Model_metreOf_26 (by omega) ?_
    refine hw_lald (f := LM9) hx hb hK hP 15 1 rfl rfl (by decide) (by omega) d_Model_metreOf_27 ?_
    subst hR
    exact W.lret (v := LM9 (x1 - VM1)) hx hb hr (fun t ht hW => ⟨⟨_, (), rfl, rfl, by rw [ht]; exact hP, va_K.moved hW.alike hK, hD⟩, hS.F ht⟩) hS.2.2 d_Model_metreOf_28
  · replace hR := (if_neg c5).symm.trans hR
    refine lv_aload_n hx hb d_Model_metreOf_8 rfl (lv_at hl 0 rfl) ?_
    refine va_get (D := (dC, dI)) (ci := 5) (v := .ref (aM 4)) (C := R_Model) (T := T_Model) (N := 30) hx hb hG in_Model hown hK hP 0 rfl rfl 5 (by decide) (hG _ m_619) (fun _ h9 => h9) rfl d_Model_metreOf_9 ?_
    refine lv_iload_n hx hb d_Model_metreOf_12 rfl (lv_at hl 1 rfl) ?_
    refine hw_lald (f := LM1) hx hb hK hP 4 1 rfl rfl (by decide) (by omega) d_Model_metreOf_13 ?_
    refine lv_goto (tgt := 28) hx hb d_Model_metreOf_14 (by decide) ?_
    subst hR
    exact W.lret (v := LM1 x1) hx hb hr (fun t ht hW => ⟨⟨_, (), rfl, rfl, by rw [ht]; exact hP, va_K.moved hW.alike hK, hD⟩, hS.F ht⟩) hS.2.2 d_Model_metreOf_28
def f_Model_serves (VM1 : Nat) (NM0 : Nat → Nat) (NM1 : Nat → Nat) (NM2 : Nat → Nat) (IM0 : Nat → Int32) (x1 : Nat) (x2 : Nat) : Int32 :=
  if VM1 ≤ x1 then (nI 1) else (if (IM0 ((8 * (NM0 x1)) + x2)) = 0 then (if (NM2 x2) < (NM1 x1) then (nI 0) else (nI 1)) else (nI 0))
set_option maxHeartbeats 4000000 in
set_option maxRecDepth 100000 in
theorem c_Model_serves (l : Launch) (dC : Nat → ClassId) (dI : Nat → Nat → Nat) (cI cJ cZ : ClassId) (sz : Nat) (aM : Nat → Nat) (VM0 : Nat) (VM1 : Nat) (VM2 : Nat) (VM3 : Nat) (VM4 : Nat) (VM5 : Nat) (WM0 : Int64) (NM0 : Nat → Nat) (NM1 : Nat → Nat) (NM2 : Nat → Nat) (LM0 : Nat → Int64) (LM1 : Nat → Int64) (LM2 : Nat → Int64) (LM3 : Nat → Int64) (LM4 : Nat → Int64) (LM5 : Nat → Int64) (LM6 : Nat → Int64) (LM7 : Nat → Int64) (LM8 : Nat → Int64) (LM9 : Nat → Int64) (LM10 : Nat → Int64) (LM11 : Nat → Int64) (LM12 : Nat → Int64) (LM13 : Nat → Int64) (LM14 : Nat → Int64) (LM15 : Nat → Int64) (IM0 : Nat → Int32) (IM1 : Nat → Int32) (IM2 : Nat → Int32) (IM3 : Nat → Int32) (x1 : Nat) (x2 : Nat) (m1 : VM1 ≤ 8) (mk4 : ∀ i, NM0 i < 4) (mcw : ∀ i, NM1 i < 12) (mfw : ∀ i, NM2 i < 12) (hx1 : x1 < 12) (hx2 : x2 < 8) : hh_Ci l y_Model_serves u_Model_serves ({ frames := 0, cells := 0, slots := 0, locals := 0 }) (dC, dI) vwCl [(cI, .int), (cJ, .long), (cZ, .boolean)] (w_M cI cJ cZ aM VM0 VM1 VM2 VM3 VM4 VM5 WM0 NM0 NM1 NM2 LM0 LM1 LM2 LM3 LM4 LM5 LM6 LM7 LM8 LM9 LM10 LM11 LM12 LM13 LM14 LM15 IM0 IM1 IM2 IM3) sz [.ref (aM 0), .int (nI x1), .int (nI x2)] (f_Model_serves VM1 NM0 NM1 NM2 IM0 x1 x2) (w_M cI cJ cZ aM VM0 VM1 VM2 VM3 VM4 VM5 WM0 NM0 NM1 NM2 LM0 LM1 LM2 LM3 LM4 LM5 LM6 LM7 LM8 LM9 LM10 LM11 LM12 LM13 LM14 LM15 IM0 IM1 IM2 IM3) 0 0 := by
  unfold hh_Ci
  refine Met.ofW (cc := b_Model_serves) (maxL := 3) (ret := (some .boolean)) (by decide) rfl ?_
  intro p e s m args below meth c s₁ B hml hv
  obtain ⟨rfl, hsz, hP, hK, hD0⟩ := hv
  have hx := B.exec
  have hb := B.bytes
  have hr := B.returns
  have hts := atoms_spec (ws := u_Model_serves) B.pre
  have hG : ∀ w ∈ wG, w.before ([.ref (aM 0), .int (nI x1), .int (nI x2)]).toArray s = true := fun w h => hts w (List.mem_cons_of_mem _ h)
  have hown : s.vm.findClass R_Model = some m.cls := findClass_of_methodNamed B.named
  have hlocks := B.notSynchronized
  subst hsz
  have hD := hD0.self (sz := s.heap.size)
  generalize hAe : va_A (w_M cI cJ cZ aM VM0 VM1 VM2 VM3 VM4 VM5 WM0 NM0 NM1 NM2 LM0 LM1 LM2 LM3 LM4 LM5 LM6 LM7 LM8 LM9 LM10 LM11 LM12 LM13 LM14 LM15 IM0 IM1 IM2 IM3) s.heap.size = A at hD ⊢
  have hA : ∀ q : Nat, s.heap.size ≤ q → A q := fun q h => by rw [← hAe]; exact Or.inr h
  have hS : va_S A s.heap s.heap [] := va_S.rf
  have hl := lv_entry ([.ref (aM 0), .int (nI x1), .int (nI x2)]) (n := 3) (Nat.le_of_ble_eq_true rfl)
  rw [lg_entry_eq]
  generalize (lg_sl ([.ref (aM 0), .int (nI x1), .int (nI x2)]) ++ List.replicate (3 - (lg_sl ([.ref (aM 0), .int (nI x1), .int (nI x2)])).length) Slot.unset).toArray = ls at hl ⊢
  have hl : lv_has ls 3 [(0, .ref (aM 0)), (1, .int (nI x1)), (2, .int (nI x2))] := hl
  generalize hR : f_Model_serves VM1 NM0 NM1 NM2 IM0 x1 x2 = r0
  obtain ⟨H, locs, hHe, hle⟩ : ∃ (H : Heap) (locs : List Loc), s.heap = H ∧ [] = locs := ⟨_, _, rfl, rfl⟩
  have hP : va_P (dC, dI) vwCl (w_M cI cJ cZ aM VM0 VM1 VM2 VM3 VM4 VM5 WM0 NM0 NM1 NM2 LM0 LM1 LM2 LM3 LM4 LM5 LM6 LM7 LM8 LM9 LM10 LM11 LM12 LM13 LM14 LM15 IM0 IM1 IM2 IM3) H := by rw [← hHe]; exact hP
  have hS : va_S A s.heap H locs := by rw [← hHe, ← hle]; exact hS
  refine hw_start hHe hle ?_
  unfold f_Model_serves at hR
  refine lv_iload_n hx hb d_Model_serves_0 rfl (lv_at hl 1 rfl) ?_
  refine lv_aload_n hx hb d_Model_serves_1 rfl (lv_at hl 0 rfl) ?_
  refine va_get (D := (dC, dI)) (ci := 5) (v := .int (nI VM1)) (C := R_Model) (T := T_Model) (N := 30) hx hb hG in_Model hown hK hP 0 rfl rfl 1 (by decide) (hG _ m_615) (fun _ h9 => h9) rfl d_Model_serves_2 ?_
  refine hw_icmp_ge (tgt := 42) hx hb d_Model_serves_5 (by decide) (by omega) (by omega) (fun c5 => ?_) (fun c5 => ?_)
  · replace hR := (if_pos c5).symm.trans hR
    refine lv_iconst (v := nI 1) hx hb d_Model_serves_42 (by decide) ?_
    refine lv_goto (tgt := 47) hx hb d_Model_serves_43 (by decide) ?_
    subst hR
    exact W.zret (v := nI 1) hx hb hr (by decide) (fun t ht hW => ⟨⟨_, (), rfl, rfl, by rw [ht]; exact hP, va_K.moved hW.alike hK, hD⟩, hS.F ht⟩) hS.2.2 d_Model_serves_47
  · replace hR := (if_neg c5).symm.trans hR
    refine lv_aload_n hx hb d_Model_serves_8 rfl (lv_at hl 0 rfl) ?_
    refine va_get (D := (dC, dI)) (ci := 5) (v := .ref (aM 8)) (C := R_Model) (T := T_Model) (N := 30) hx hb hG in_Model hown hK hP 0 rfl rfl 10 (by decide) (hG _ m_624) (fun _ h9 => h9) rfl d_Model_serves_9 ?_
    refine lv_bipush (v := nI 8) hx hb d_Model_serves_12 (by decide) ?_
    refine lv_aload_n hx hb d_Model_serves_14 rfl (lv_at hl 0 rfl) ?_
    refine va_get (D := (dC, dI)) (ci := 5) (v := .ref (aM 2)) (C := R_Model) (T := T_Model) (N := 30) hx hb hG in_Model hown hK hP 0 rfl rfl 3 (by decide) (hG _ m_617) (fun _ h9 => h9) rfl d_Model_serves_15 ?_
    refine lv_iload_n hx hb d_Model_serves_18 rfl (lv_at hl 1 rfl) ?_
    refine hw_nald (g := NM0) hx hb hK hP 2 0 rfl rfl (by decide) (by omega) d_Model_serves_19 ?_
    have hb19 := mk4 x1
    refine hw_imul hx hb d_Model_serves_20 ?_
    refine lv_iload_n hx hb d_Model_serves_21 rfl (lv_at hl 2 rfl) ?_
    refine hw_iadd hx hb d_Model_serves_22 ?_
    refine hw_zald (f := IM0) hx hb hK hP 8 2 rfl rfl (by decide) (by omega) d_Model_serves_23 ?_
    refine lv_if_ne (tgt := 46) hx hb d_Model_serves_24 (by decide) (fun c24 => ?_) (fun c24 => ?_)
    · replace hR := (if_neg c24).symm.trans hR
      refine lv_iconst (v := nI 0) hx hb d_Model_serves_46 (by decide) ?_
      subst hR
      exact W.zret (v := nI 0) hx hb hr (by decide) (fun t ht hW => ⟨⟨_, (), rfl, rfl, by rw [ht]; exact hP, va_K.moved hW.alike hK, hD⟩, hS.F ht⟩) hS.2.2 d_Model_serves_47
    · replace hR := (if_pos c24).symm.trans hR
      refine lv_aload_n hx hb d_Model_serves_27 rfl (lv_at hl 0 rfl) ?_
      refine va_get (D := (dC, dI)) (ci := 5) (v := .ref (aM 3)) (C := R_Model) (T := T_Model) (N := 30) hx hb hG in_Model hown hK hP 0 rfl rfl 4 (by decide) (hG _ m_618) (fun _ h9 => h9) rfl d_Model_serves_28 ?_
      refine lv_iload_n hx hb d_Model_serves_31 rfl (lv_at hl 1 rfl) ?_
      refine hw_nald (g := NM1) hx hb hK hP 3 0 rfl rfl (by decide) (by omega) d_Model_serves_32 ?_
      have hb32 := mcw x1
      refine lv_aload_n hx hb d_Model_serves_33 rfl (lv_at hl 0 rfl) ?_
      refine va_get (D := (dC, dI)) (ci := 5) (v := .ref (aM 6)) (C := R_Model) (T := T_Model) (N := 30) hx hb hG in_Model hown hK hP 0 rfl rfl 8 (by decide) (hG _ m_622) (fun _ h9 => h9) rfl d_Model_serves_34 ?_
      refine lv_iload_n hx hb d_Model_serves_37 rfl (lv_at hl 2 rfl) ?_
      refine hw_nald (g := NM2) hx hb hK hP 6 0 rfl rfl (by decide) (by omega) d_Model_serves_38 ?_
      have hb38 := mfw x2
      refine hw_icmp_gt (tgt := 46) hx hb d_Model_serves_39 (by decide) (by omega) (by omega) (fun c39 => ?_) (fun c39 => ?_)
      · replace hR := (if_pos c39).symm.trans hR
        refine lv_iconst (v := nI 0) hx hb d_Model_serves_46 (by decide) ?_
        subst hR
        exact W.zret (v := nI 0) hx hb hr (by decide) (fun t ht hW => ⟨⟨_, (), rfl, rfl, by rw [ht]; exact hP, va_K.moved hW.alike hK, hD⟩, hS.F ht⟩) hS.2.2 d_Model_serves_47
      · replace hR := (if_neg c39).symm.trans hR
        refine lv_iconst (v := nI 1) hx hb d_Model_serves_42 (by decide) ?_
        refine lv_goto (tgt := 47) hx hb d_Model_serves_43 (by decide) ?_
        subst hR
        exact W.zret (v := nI 1) hx hb hr (by decide) (fun t ht hW => ⟨⟨_, (), rfl, rfl, by rw [ht]; exact hP, va_K.moved hW.alike hK, hD⟩, hS.F ht⟩) hS.2.2 d_Model_serves_47
def f_Model_unit_h27B (VM3 : Nat) (y2 : Int64) (LM6 : Nat → Int64) (LM7 : Nat → Int64) (LM3 : Nat → Int64) (x2 : Nat) (x3 : Int32) (IM1 : Nat → Int32) (NM2 : Nat → Nat) (LM8 : Nat → Int64) (k_27 : (Int64) → (Nat) → Int64) (rec_27 : (Int64) → (Nat) → Int64) (x8_27 : Int64) (x10_27 : Nat) : Int64 :=
  if VM3 ≤ x10_27 then (k_27 x8_27 x10_27) else (hh_bind (f_Model_apart y2 (LM6 x10_27)) (fun y45 => hh_bind (f_Model_apart (LM7 x10_27) (LM3 x2)) (fun y65 => hh_bind (f_Model_apart y2 (LM7 x10_27)) (fun y80 => hh_bind (f_Model_apart (LM6 x10_27) (LM3 x2)) (fun y100 => if (nI x10_27) = x3 then (rec_27 x8_27 (x10_27 + 1)) else (if (IM1 ((12 * x10_27) + (NM2 x2))) = 0 then (if x8_27 ≤ ((y45 + (LM8 x10_27)) + y65) then (if x8_27 ≤ ((y80 + (LM8 x10_27)) + y100) then (rec_27 x8_27 (x10_27 + 1)) else (rec_27 ((y80 + (LM8 x10_27)) + y100) (x10_27 + 1))) else (if ((y45 + (LM8 x10_27)) + y65) ≤ ((y80 + (LM8 x10_27)) + y100) then (rec_27 ((y45 + (LM8 x10_27)) + y65) (x10_27 + 1)) else (rec_27 ((y80 + (LM8 x10_27)) + y100) (x10_27 + 1)))) else (rec_27 x8_27 (x10_27 + 1))))))))
def f_Model_unit_h27 (VM3 : Nat) (y2 : Int64) (LM6 : Nat → Int64) (LM7 : Nat → Int64) (LM3 : Nat → Int64) (x2 : Nat) (x3 : Int32) (IM1 : Nat → Int32) (NM2 : Nat → Nat) (LM8 : Nat → Int64) (k_27 : (Int64) → (Nat) → Int64) : Nat → (Int64) → (Nat) → Int64
  | 0, x8_27, x10_27 => k_27 x8_27 x10_27
  | n + 1, x8_27, x10_27 => f_Model_unit_h27B VM3 y2 LM6 LM7 LM3 x2 x3 IM1 NM2 LM8 k_27 (fun x8_27 x10_27 => f_Model_unit_h27 VM3 y2 LM6 LM7 LM3 x2 x3 IM1 NM2 LM8 k_27 n x8_27 x10_27) x8_27 x10_27
def f_Model_unit_x27 (VM1 : Nat) (x1 : Nat) (LM10 : Nat → Int64) (x8_27 : Int64) (x10_27 : Nat) : Int64 :=
  if VM1 ≤ x1 then (x8_27 + (LM10 (x1 - VM1))) else (x8_27)
def f_Model_unit (VM1 : Nat) (VM3 : Nat) (NM2 : Nat → Nat) (LM1 : Nat → Int64) (LM3 : Nat → Int64) (LM6 : Nat → Int64) (LM7 : Nat → Int64) (LM8 : Nat → Int64) (LM9 : Nat → Int64) (LM10 : Nat → Int64) (IM1 : Nat → Int32) (x1 : Nat) (x2 : Nat) (x3 : Int32) : Int64 :=
  hh_bind (f_Model_metreOf VM1 LM1 LM9 x1) (fun y2 => hh_bind (f_Model_apart y2 (LM3 x2)) (fun y19 => f_Model_unit_h27 VM3 y2 LM6 LM7 LM3 x2 x3 IM1 NM2 LM8 (f_Model_unit_x27 VM1 x1 LM10) 7 y19 0))
set_option maxHeartbeats 4000000 in
set_option maxRecDepth 100000 in
theorem c_Model_unit (l : Launch) (dC : Nat → ClassId) (dI : Nat → Nat → Nat) (cI cJ cZ : ClassId) (sz : Nat) (aM : Nat → Nat) (VM0 : Nat) (VM1 : Nat) (VM2 : Nat) (VM3 : Nat) (VM4 : Nat) (VM5 : Nat) (WM0 : Int64) (NM0 : Nat → Nat) (NM1 : Nat → Nat) (NM2 : Nat → Nat) (LM0 : Nat → Int64) (LM1 : Nat → Int64) (LM2 : Nat → Int64) (LM3 : Nat → Int64) (LM4 : Nat → Int64) (LM5 : Nat → Int64) (LM6 : Nat → Int64) (LM7 : Nat → Int64) (LM8 : Nat → Int64) (LM9 : Nat → Int64) (LM10 : Nat → Int64) (LM11 : Nat → Int64) (LM12 : Nat → Int64) (LM13 : Nat → Int64) (LM14 : Nat → Int64) (LM15 : Nat → Int64) (IM0 : Nat → Int32) (IM1 : Nat → Int32) (IM2 : Nat → Int32) (IM3 : Nat → Int32) (x1 : Nat) (x2 : Nat) (x3 : Int32) (m1 : VM1 ≤ 8) (m3 : VM3 ≤ 6) (m4 : VM4 ≤ 4) (mfw : ∀ i, NM2 i < 12) (hx1 : x1 < (VM1 + VM4)) (hx2 : x2 < 8) : hh_Cl l y_Model_unit u_Model_unit ({ frames := 1, cells := 0, slots := 0, locals := 23 }) (dC, dI) vwCl [(cI, .int), (cJ, .long), (cZ, .boolean)] (w_M cI cJ cZ aM VM0 VM1 VM2 VM3 VM4 VM5 WM0 NM0 NM1 NM2 LM0 LM1 LM2 LM3 LM4 LM5 LM6 LM7 LM8 LM9 LM10 LM11 LM12 LM13 LM14 LM15 IM0 IM1 IM2 IM3) sz [.ref (aM 0), .int (nI x1), .int (nI x2), .int x3] (f_Model_unit VM1 VM3 NM2 LM1 LM3 LM6 LM7 LM8 LM9 LM10 IM1 x1 x2 x3) (w_M cI cJ cZ aM VM0 VM1 VM2 VM3 VM4 VM5 WM0 NM0 NM1 NM2 LM0 LM1 LM2 LM3 LM4 LM5 LM6 LM7 LM8 LM9 LM10 LM11 LM12 LM13 LM14 LM15 IM0 IM1 IM2 IM3) 0 0 := by
  unfold hh_Cl
  refine Met.ofW (cc := b_Model_unit) (maxL := 15) (ret := (some .long)) (by decide) rfl ?_
  intro p e s m args below meth c s₁ B hml hv
  obtain ⟨rfl, hsz, hP, hK, hD0⟩ := hv
  have hx := B.exec
  have hb := B.bytes
  have hr := B.returns
  have hts := atoms_spec (ws := u_Model_unit) B.pre
  have hG : ∀ w ∈ wG, w.before ([.ref (aM 0), .int (nI x1), .int (nI x2), .int x3]).toArray s = true := fun w h => hts w (List.mem_cons_of_mem _ h)
  have hown : s.vm.findClass R_Model = some m.cls := findClass_of_methodNamed B.named
  have hlocks := B.notSynchronized
  subst hsz
  have hD := hD0.self (sz := s.heap.size)
  generalize hAe : va_A (w_M cI cJ cZ aM VM0 VM1 VM2 VM3 VM4 VM5 WM0 NM0 NM1 NM2 LM0 LM1 LM2 LM3 LM4 LM5 LM6 LM7 LM8 LM9 LM10 LM11 LM12 LM13 LM14 LM15 IM0 IM1 IM2 IM3) s.heap.size = A at hD ⊢
  have hA : ∀ q : Nat, s.heap.size ≤ q → A q := fun q h => by rw [← hAe]; exact Or.inr h
  have hS : va_S A s.heap s.heap [] := va_S.rf
  have hl := lv_entry ([.ref (aM 0), .int (nI x1), .int (nI x2), .int x3]) (n := 15) (Nat.le_of_ble_eq_true rfl)
  rw [lg_entry_eq]
  generalize (lg_sl ([.ref (aM 0), .int (nI x1), .int (nI x2), .int x3]) ++ List.replicate (15 - (lg_sl ([.ref (aM 0), .int (nI x1), .int (nI x2), .int x3])).length) Slot.unset).toArray = ls at hl ⊢
  have hl : lv_has ls 15 [(0, .ref (aM 0)), (1, .int (nI x1)), (2, .int (nI x2)), (3, .int x3)] := hl
  generalize hR : f_Model_unit VM1 VM3 NM2 LM1 LM3 LM6 LM7 LM8 LM9 LM10 IM1 x1 x2 x3 = r0
  obtain ⟨H, locs, hHe, hle⟩ : ∃ (H : Heap) (locs : List Loc), s.heap = H ∧ [] = locs := ⟨_, _, rfl, rfl⟩
  have hP : va_P (dC, dI) vwCl (w_M cI cJ cZ aM VM0 VM1 VM2 VM3 VM4 VM5 WM0 NM0 NM1 NM2 LM0 LM1 LM2 LM3 LM4 LM5 LM6 LM7 LM8 LM9 LM10 LM11 LM12 LM13 LM14 LM15 IM0 IM1 IM2 IM3) H := by rw [← hHe]; exact hP
  have hS : va_S A s.heap H locs := by rw [← hHe, ← hle]; exact hS
  refine hw_start hHe hle ?_
  unfold f_Model_unit at hR
  refine lv_aload_n hx hb d_Model_unit_0 rfl (lv_at hl 0 rfl) ?_
  refine lv_iload_n hx hb d_Model_unit_1 rfl (lv_at hl 1 rfl) ?_
  obtain ⟨y2, hy2, hR⟩ := hw_bind hR
  have hM := c_Model_metreOf l dC dI cI cJ cZ H.size aM VM0 VM1 VM2 VM3 VM4 VM5 WM0 NM0 NM1 NM2 LM0 LM1 LM2 LM3 LM4 LM5 LM6 LM7 LM8 LM9 LM10 LM11 LM12 LM13 LM14 LM15 IM0 IM1 IM2 IM3 x1 (by first | assumption | omega) (by first | assumption | omega) (by first | assumption | omega)
  rw [hy2] at hM
  refine hw_callVl (As := [.int (nI x1)]) (rest := []) (wr := ([] : va_W)) ⟨hx, hb, hml, hown, hG⟩ hM (hw_cwV 1 hG m_770 m_772 mp_25 m_7 m_773 rfl rfl (by decide +kernel) ⟨Nat.le_of_ble_eq_true rfl, Nat.le_of_ble_eq_true rfl⟩) hK hP hD hS hA [0, 1, 2, 3, 4, 5, 6, 7, 8, 9, 10, 11, 12, 13, 14, 15, 16, 17, 18, 19, 20, 21, 22, 23] [] rfl rfl (by decide) (by decide) (by decide) (hw_recv hK hP 0 rfl rfl) rfl hl.1 rfl (Nat.le_of_ble_eq_true rfl) d_Model_unit_2 ⟨Nat.le_of_ble_eq_true rfl, Nat.le_of_ble_eq_true rfl⟩ (fun H locs hP hD hS => ?_)
  have hP : va_P (dC, dI) vwCl (w_M cI cJ cZ aM VM0 VM1 VM2 VM3 VM4 VM5 WM0 NM0 NM1 NM2 LM0 LM1 LM2 LM3 LM4 LM5 LM6 LM7 LM8 LM9 LM10 LM11 LM12 LM13 LM14 LM15 IM0 IM1 IM2 IM3) H := hP
  have hD : va_D A (w_M cI cJ cZ aM VM0 VM1 VM2 VM3 VM4 VM5 WM0 NM0 NM1 NM2 LM0 LM1 LM2 LM3 LM4 LM5 LM6 LM7 LM8 LM9 LM10 LM11 LM12 LM13 LM14 LM15 IM0 IM1 IM2 IM3) := hD
  refine lv_lstore (lv' := [(4, .long y2), (0, .ref (aM 0)), (1, .int (nI x1)), (2, .int (nI x2)), (3, .int x3)]) hx hb d_Model_unit_5 hl (by decide) rfl (fun ls hl => ?_)
  refine lv_aload_n hx hb d_Model_unit_7 rfl (lv_at hl 1 rfl) ?_
  refine va_get (D := (dC, dI)) (ci := 5) (v := .ref (aM 7)) (C := R_Model) (T := T_Model) (N := 30) hx hb hG in_Model hown hK hP 0 rfl rfl 9 (by decide) (hG _ m_623) (fun _ h9 => h9) rfl d_Model_unit_8 ?_
  refine lv_iload_n hx hb d_Model_unit_11 rfl (lv_at hl 3 rfl) ?_
  refine hw_lald (f := LM3) hx hb hK hP 7 1 rfl rfl (by decide) (by omega) d_Model_unit_12 ?_
  refine lv_lstore (lv' := [(6, .long (LM3 x2)), (4, .long y2), (0, .ref (aM 0)), (1, .int (nI x1)), (2, .int (nI x2)), (3, .int x3)]) hx hb d_Model_unit_13 hl (by decide) rfl (fun ls hl => ?_)
  refine lv_lload hx hb d_Model_unit_15 (lv_at hl 1 rfl) ?_
  refine lv_lload hx hb d_Model_unit_17 (lv_at hl 0 rfl) ?_
  obtain ⟨y19, hy19, hR⟩ := hw_bind hR
  have hM := c_Model_apart l dC dI cI cJ cZ H.size y2 (LM3 x2)
  rw [hy19] at hM
  refine hw_callSl (As := [.long y2, .long (LM3 x2)]) (rest := []) (wr := w_M cI cJ cZ aM VM0 VM1 VM2 VM3 VM4 VM5 WM0 NM0 NM1 NM2 LM0 LM1 LM2 LM3 LM4 LM5 LM6 LM7 LM8 LM9 LM10 LM11 LM12 LM13 LM14 LM15 IM0 IM1 IM2 IM3) ⟨hx, hb, hml, hown, hG⟩ hM (hw_cwS 2 hG m_774 m_775 m_7 m_776 rfl rfl (by decide +kernel) ⟨Nat.le_of_ble_eq_true rfl, Nat.le_of_ble_eq_true rfl⟩) hK hP hD hS hA [] [0, 1, 2, 3, 4, 5, 6, 7, 8, 9, 10, 11, 12, 13, 14, 15, 16, 17, 18, 19, 20, 21, 22, 23] rfl rfl (by decide) (by decide) (by decide) rfl hl.1 rfl (Nat.le_of_ble_eq_true rfl) d_Model_unit_19 ⟨Nat.le_of_ble_eq_true rfl, Nat.le_of_ble_eq_true rfl⟩ (fun H locs hP hD hS => ?_)
  have hP : va_P (dC, dI) vwCl (w_M cI cJ cZ aM VM0 VM1 VM2 VM3 VM4 VM5 WM0 NM0 NM1 NM2 LM0 LM1 LM2 LM3 LM4 LM5 LM6 LM7 LM8 LM9 LM10 LM11 LM12 LM13 LM14 LM15 IM0 IM1 IM2 IM3) H := hP
  have hD : va_D A (w_M cI cJ cZ aM VM0 VM1 VM2 VM3 VM4 VM5 WM0 NM0 NM1 NM2 LM0 LM1 LM2 LM3 LM4 LM5 LM6 LM7 LM8 LM9 LM10 LM11 LM12 LM13 LM14 LM15 IM0 IM1 IM2 IM3) := hD
  refine lv_lstore (lv' := [(8, .long y19), (6, .long (LM3 x2)), (4, .long y2), (0, .ref (aM 0)), (1, .int (nI x1)), (2, .int (nI x2)), (3, .int x3)]) hx hb d_Model_unit_22 hl (by decide) rfl (fun ls hl => ?_)
  refine lv_iconst (v := nI 0) hx hb d_Model_unit_24 (by decide) ?_
  refine lv_istore (lv' := [(10, .int (nI 0)), (8, .long y19), (6, .long (LM3 x2)), (4, .long y2), (0, .ref (aM 0)), (1, .int (nI x1)), (2, .int (nI x2)), (3, .int x3)]) hx hb d_Model_unit_25 hl (by decide) rfl (fun ls hl => ?_)
  obtain ⟨k_27, hk_27, hR⟩ : ∃ k, (f_Model_unit_x27 VM1 x1 LM10) = k ∧ f_Model_unit_h27 VM3 y2 LM6 LM7 LM3 x2 x3 IM1 NM2 LM8 k 7 y19 0 = r0 := ⟨_, rfl, hR⟩
  have X_27 : ∀ (x8_27 : Int64) (x10_27 : Nat) (hi : x10_27 ≤ VM3) (H : Heap) (locs : List Loc) (hP : va_P (dC, dI) vwCl (w_M cI cJ cZ aM VM0 VM1 VM2 VM3 VM4 VM5 WM0 NM0 NM1 NM2 LM0 LM1 LM2 LM3 LM4 LM5 LM6 LM7 LM8 LM9 LM10 LM11 LM12 LM13 LM14 LM15 IM0 IM1 IM2 IM3) H) (hD : va_D A (w_M cI cJ cZ aM VM0 VM1 VM2 VM3 VM4 VM5 WM0 NM0 NM1 NM2 LM0 LM1 LM2 LM3 LM4 LM5 LM6 LM7 LM8 LM9 LM10 LM11 LM12 LM13 LM14 LM15 IM0 IM1 IM2 IM3)) (hS : va_S A s.heap H locs) (ls : Array Slot) (hl : lv_has ls 15 [(0, .ref (aM 0)), (1, .int (nI x1)), (2, .int (nI x2)), (3, .int x3), (4, .long y2), (6, .long (LM3 x2)), (8, .long x8_27), (10, .int (nI x10_27))]) (hR : k_27 x8_27 x10_27 = r0), W p l e (headSpec u_Model_unit ({ frames := 1, cells := 0, slots := 0, locals := 23 })).room s m ([.ref (aM 0), .int (nI x1), .int (nI x2), .int x3]).toArray below meth c H locs 0 0 (hh_Zl below (dC, dI) vwCl [(cI, .int), (cJ, .long), (cZ, .boolean)] A r0 (w_M cI cJ cZ aM VM0 VM1 VM2 VM3 VM4 VM5 WM0 NM0 NM1 NM2 LM0 LM1 LM2 LM3 LM4 LM5 LM6 LM7 LM8 LM9 LM10 LM11 LM12 LM13 LM14 LM15 IM0 IM1 IM2 IM3) ([.ref (aM 0), .int (nI x1), .int (nI x2), .int x3]).toArray s) (F0 m 172 ls []) := by
    intro x8_27 x10_27 hi H locs hP hD hS ls hl hR
    rw [← hk_27] at hR
    unfold f_Model_unit_x27 at hR
    refine lv_iload_n hx hb d_Model_unit_172 rfl (lv_at hl 1 rfl) ?_
    refine lv_aload_n hx hb d_Model_unit_173 rfl (lv_at hl 0 rfl) ?_
    refine va_get (D := (dC, dI)) (ci := 5) (v := .int (nI VM1)) (C := R_Model) (T := T_Model) (N := 30) hx hb hG in_Model hown hK hP 0 rfl rfl 1 (by decide) (hG _ m_615) (fun _ h9 => h9) rfl d_Model_unit_174 ?_
    refine hw_icmp_ge (tgt := 185) hx hb d_Model_unit_177 (by decide) (by omega) (by omega) (fun c177 => ?_) (fun c177 => ?_)
    · replace hR := (if_pos c177).symm.trans hR
      refine lv_lload hx hb d_Model_unit_185 (lv_at hl 6 rfl) ?_
      refine lv_aload_n hx hb d_Model_unit_187 rfl (lv_at hl 0 rfl) ?_
      refine va_get (D := (dC, dI)) (ci := 5) (v := .ref (aM 16)) (C := R_Model) (T := T_Model) (N := 30) hx hb hG in_Model hown hK hP 0 rfl rfl 20 (by decide) (hG _ m_634) (fun _ h9 => h9) rfl d_Model_unit_188 ?_
      refine lv_iload_n hx hb d_Model_unit_191 rfl (lv_at hl 1 rfl) ?_
      refine lv_aload_n hx hb d_Model_unit_192 rfl (lv_at hl 0 rfl) ?_
      refine va_get (D := (dC, dI)) (ci := 5) (v := .int (nI VM1)) (C := R_Model) (T := T_Model) (N := 30) hx hb hG in_Model hown hK hP 0 rfl rfl 1 (by decide) (hG _ m_615) (fun _ h9 => h9) rfl d_Model_unit_193 ?_
      refine hw_isub hx hb d_Model_unit_196 (by omega) ?_
      refine hw_lald (f := LM10) hx hb hK hP 16 1 rfl rfl (by decide) (by omega) d_Model_unit_197 ?_
      refine lv_ladd hx hb d_Model_unit_198 ?_
      subst hR
      exact W.lret (v := x8_27 + (LM10 (x1 - VM1))) hx hb hr (fun t ht hW => ⟨⟨_, (), rfl, rfl, by rw [ht]; exact hP, va_K.moved hW.alike hK, hD⟩, hS.F ht⟩) hS.2.2 d_Model_unit_199
    · replace hR := (if_neg c177).symm.trans hR
      refine lv_lload hx hb d_Model_unit_180 (lv_at hl 6 rfl) ?_
      refine lv_goto (tgt := 199) hx hb d_Model_unit_182 (by decide) ?_
      subst hR
      exact W.lret (v := x8_27) hx hb hr (fun t ht hW => ⟨⟨_, (), rfl, rfl, by rw [ht]; exact hP, va_K.moved hW.alike hK, hD⟩, hS.F ht⟩) hS.2.2 d_Model_unit_199
  have L_27 : ∀ (n : Nat) (x8_27 : Int64) (x10_27 : Nat) (hi : x10_27 ≤ VM3) (hfu : VM3 - x10_27 < n) (H : Heap) (locs : List Loc) (hP : va_P (dC, dI) vwCl (w_M cI cJ cZ aM VM0 VM1 VM2 VM3 VM4 VM5 WM0 NM0 NM1 NM2 LM0 LM1 LM2 LM3 LM4 LM5 LM6 LM7 LM8 LM9 LM10 LM11 LM12 LM13 LM14 LM15 IM0 IM1 IM2 IM3) H) (hD : va_D A (w_M cI cJ cZ aM VM0 VM1 VM2 VM3 VM4 VM5 WM0 NM0 NM1 NM2 LM0 LM1 LM2 LM3 LM4 LM5 LM6 LM7 LM8 LM9 LM10 LM11 LM12 LM13 LM14 LM15 IM0 IM1 IM2 IM3)) (hS : va_S A s.heap H locs) (ls : Array Slot) (hl : lv_has ls 15 [(0, .ref (aM 0)), (1, .int (nI x1)), (2, .int (nI x2)), (3, .int x3), (4, .long y2), (6, .long (LM3 x2)), (8, .long x8_27), (10, .int (nI x10_27))]) (hR : f_Model_unit_h27 VM3 y2 LM6 LM7 LM3 x2 x3 IM1 NM2 LM8 k_27 n x8_27 x10_27 = r0), W p l e (headSpec u_Model_unit ({ frames := 1, cells := 0, slots := 0, locals := 23 })).room s m ([.ref (aM 0), .int (nI x1), .int (nI x2), .int x3]).toArray below meth c H locs 0 0 (hh_Zl below (dC, dI) vwCl [(cI, .int), (cJ, .long), (cZ, .boolean)] A r0 (w_M cI cJ cZ aM VM0 VM1 VM2 VM3 VM4 VM5 WM0 NM0 NM1 NM2 LM0 LM1 LM2 LM3 LM4 LM5 LM6 LM7 LM8 LM9 LM10 LM11 LM12 LM13 LM14 LM15 IM0 IM1 IM2 IM3) ([.ref (aM 0), .int (nI x1), .int (nI x2), .int x3]).toArray s) (F0 m 27 ls []) := by
    intro n
    induction n with
    | zero =>
      intro x8_27 x10_27 hi hfu H locs hP hD hS ls hl hR
      exact absurd hfu (Nat.not_lt_zero _)
    | succ n ih_27 =>
      intro x8_27 x10_27 hi hfu H locs hP hD hS ls hl hR
      rw [f_Model_unit_h27] at hR
      obtain ⟨rec_27, hrec_27, hR⟩ : ∃ r, r = _ ∧ f_Model_unit_h27B VM3 y2 LM6 LM7 LM3 x2 x3 IM1 NM2 LM8 k_27 r x8_27 x10_27 = r0 := ⟨_, rfl, hR⟩
      unfold f_Model_unit_h27B at hR
      refine lv_iload hx hb d_Model_unit_27 (lv_at hl 7 rfl) ?_
      refine lv_aload_n hx hb d_Model_unit_29 rfl (lv_at hl 0 rfl) ?_
      refine va_get (D := (dC, dI)) (ci := 5) (v := .int (nI VM3)) (C := R_Model) (T := T_Model) (N := 30) hx hb hG in_Model hown hK hP 0 rfl rfl 13 (by decide) (hG _ m_627) (fun _ h9 => h9) rfl d_Model_unit_30 ?_
      refine hw_icmp_ge (tgt := 172) hx hb d_Model_unit_33 (by decide) (by omega) (by omega) (fun c33 => ?_) (fun c33 => ?_)
      · replace hR := (if_pos c33).symm.trans hR
        exact X_27 x8_27 x10_27 (by first | assumption | omega | exact hw_upb (by assumption) (by omega)) H locs hP hD hS ls (lv_sub hl [0, 1, 2, 3, 4, 5, 6, 7] rfl) hR
      · replace hR := (if_neg c33).symm.trans hR
        refine lv_lload hx hb d_Model_unit_36 (lv_at hl 4 rfl) ?_
        refine lv_aload_n hx hb d_Model_unit_38 rfl (lv_at hl 0 rfl) ?_
        refine va_get (D := (dC, dI)) (ci := 5) (v := .ref (aM 11)) (C := R_Model) (T := T_Model) (N := 30) hx hb hG in_Model hown hK hP 0 rfl rfl 14 (by decide) (hG _ m_628) (fun _ h9 => h9) rfl d_Model_unit_39 ?_
        refine lv_iload hx hb d_Model_unit_42 (lv_at hl 7 rfl) ?_
        refine hw_lald (f := LM6) hx hb hK hP 11 1 rfl rfl (by decide) (by omega) d_Model_unit_44 ?_
        obtain ⟨y45, hy45, hR⟩ := hw_bind hR
        have hM := c_Model_apart l dC dI cI cJ cZ H.size y2 (LM6 x10_27)
        rw [hy45] at hM
        refine hw_callSl (As := [.long y2, .long (LM6 x10_27)]) (rest := []) (wr := w_M cI cJ cZ aM VM0 VM1 VM2 VM3 VM4 VM5 WM0 NM0 NM1 NM2 LM0 LM1 LM2 LM3 LM4 LM5 LM6 LM7 LM8 LM9 LM10 LM11 LM12 LM13 LM14 LM15 IM0 IM1 IM2 IM3) ⟨hx, hb, hml, hown, hG⟩ hM (hw_cwS 2 hG m_774 m_775 m_7 m_776 rfl rfl (by decide +kernel) ⟨Nat.le_of_ble_eq_true rfl, Nat.le_of_ble_eq_true rfl⟩) hK hP hD hS hA [] [0, 1, 2, 3, 4, 5, 6, 7, 8, 9, 10, 11, 12, 13, 14, 15, 16, 17, 18, 19, 20, 21, 22, 23] rfl rfl (by decide) (by decide) (by decide) rfl hl.1 rfl (Nat.le_of_ble_eq_true rfl) d_Model_unit_45 ⟨Nat.le_of_ble_eq_true rfl, Nat.le_of_ble_eq_true rfl⟩ (fun H locs hP hD hS => ?_)
        have hP : va_P (dC, dI) vwCl (w_M cI cJ cZ aM VM0 VM1 VM2 VM3 VM4 VM5 WM0 NM0 NM1 NM2 LM0 LM1 LM2 LM3 LM4 LM5 LM6 LM7 LM8 LM9 LM10 LM11 LM12 LM13 LM14 LM15 IM0 IM1 IM2 IM3) H := hP
        have hD : va_D A (w_M cI cJ cZ aM VM0 VM1 VM2 VM3 VM4 VM5 WM0 NM0 NM1 NM2 LM0 LM1 LM2 LM3 LM4 LM5 LM6 LM7 LM8 LM9 LM10 LM11 LM12 LM13 LM14 LM15 IM0 IM1 IM2 IM3) := hD
        refine lv_aload_n hx hb d_Model_unit_48 rfl (lv_at hl 0 rfl) ?_
        refine va_get (D := (dC, dI)) (ci := 5) (v := .ref (aM 13)) (C := R_Model) (T := T_Model) (N := 30) hx hb hG in_Model hown hK hP 0 rfl rfl 16 (by decide) (hG _ m_630) (fun _ h9 => h9) rfl d_Model_unit_49 ?_
        refine lv_iload hx hb d_Model_unit_52 (lv_at hl 7 rfl) ?_
        refine hw_lald (f := LM8) hx hb hK hP 13 1 rfl rfl (by decide) (by omega) d_Model_unit_54 ?_
        refine lv_ladd hx hb d_Model_unit_55 ?_
        refine lv_aload_n hx hb d_Model_unit_56 rfl (lv_at hl 0 rfl) ?_
        refine va_get (D := (dC, dI)) (ci := 5) (v := .ref (aM 12)) (C := R_Model) (T := T_Model) (N := 30) hx hb hG in_Model hown hK hP 0 rfl rfl 15 (by decide) (hG _ m_629) (fun _ h9 => h9) rfl d_Model_unit_57 ?_
        refine lv_iload hx hb d_Model_unit_60 (lv_at hl 7 rfl) ?_
        refine hw_lald (f := LM7) hx hb hK hP 12 1 rfl rfl (by decide) (by omega) d_Model_unit_62 ?_
        refine lv_lload hx hb d_Model_unit_63 (lv_at hl 5 rfl) ?_
        obtain ⟨y65, hy65, hR⟩ := hw_bind hR
        have hM := c_Model_apart l dC dI cI cJ cZ H.size (LM7 x10_27) (LM3 x2)
        rw [hy65] at hM
        refine hw_callSl (As := [.long (LM7 x10_27), .long (LM3 x2)]) (rest := [.long (y45 + (LM8 x10_27))]) (wr := w_M cI cJ cZ aM VM0 VM1 VM2 VM3 VM4 VM5 WM0 NM0 NM1 NM2 LM0 LM1 LM2 LM3 LM4 LM5 LM6 LM7 LM8 LM9 LM10 LM11 LM12 LM13 LM14 LM15 IM0 IM1 IM2 IM3) ⟨hx, hb, hml, hown, hG⟩ hM (hw_cwS 2 hG m_774 m_775 m_7 m_776 rfl rfl (by decide +kernel) ⟨Nat.le_of_ble_eq_true rfl, Nat.le_of_ble_eq_true rfl⟩) hK hP hD hS hA [] [0, 1, 2, 3, 4, 5, 6, 7, 8, 9, 10, 11, 12, 13, 14, 15, 16, 17, 18, 19, 20, 21, 22, 23] rfl rfl (by decide) (by decide) (by decide) rfl hl.1 rfl (Nat.le_of_ble_eq_true rfl) d_Model_unit_65 ⟨Nat.le_of_ble_eq_true rfl, Nat.le_of_ble_eq_true rfl⟩ (fun H locs hP hD hS => ?_)
        have hP : va_P (dC, dI) vwCl (w_M cI cJ cZ aM VM0 VM1 VM2 VM3 VM4 VM5 WM0 NM0 NM1 NM2 LM0 LM1 LM2 LM3 LM4 LM5 LM6 LM7 LM8 LM9 LM10 LM11 LM12 LM13 LM14 LM15 IM0 IM1 IM2 IM3) H := hP
        have hD : va_D A (w_M cI cJ cZ aM VM0 VM1 VM2 VM3 VM4 VM5 WM0 NM0 NM1 NM2 LM0 LM1 LM2 LM3 LM4 LM5 LM6 LM7 LM8 LM9 LM10 LM11 LM12 LM13 LM14 LM15 IM0 IM1 IM2 IM3) := hD
        refine lv_ladd hx hb d_Model_unit_68 ?_
        refine lv_lstore (lv' := [(11, .long ((y45 + (LM8 x10_27)) + y65)), (0, .ref (aM 0)), (1, .int (nI x1)), (2, .int (nI x2)), (3, .int x3), (4, .long y2), (6, .long (LM3 x2)), (8, .long x8_27), (10, .int (nI x10_27))]) hx hb d_Model_unit_69 hl (by decide) rfl (fun ls hl => ?_)
        refine lv_lload hx hb d_Model_unit_71 (lv_at hl 5 rfl) ?_
        refine lv_aload_n hx hb d_Model_unit_73 rfl (lv_at hl 1 rfl) ?_
        refine va_get (D := (dC, dI)) (ci := 5) (v := .ref (aM 12)) (C := R_Model) (T := T_Model) (N := 30) hx hb hG in_Model hown hK hP 0 rfl rfl 15 (by decide) (hG _ m_629) (fun _ h9 => h9) rfl d_Model_unit_74 ?_
        refine lv_iload hx hb d_Model_unit_77 (lv_at hl 8 rfl) ?_
        refine hw_lald (f := LM7) hx hb hK hP 12 1 rfl rfl (by decide) (by omega) d_Model_unit_79 ?_
        obtain ⟨y80, hy80, hR⟩ := hw_bind hR
        have hM := c_Model_apart l dC dI cI cJ cZ H.size y2 (LM7 x10_27)
        rw [hy80] at hM
        refine hw_callSl (As := [.long y2, .long (LM7 x10_27)]) (rest := []) (wr := w_M cI cJ cZ aM VM0 VM1 VM2 VM3 VM4 VM5 WM0 NM0 NM1 NM2 LM0 LM1 LM2 LM3 LM4 LM5 LM6 LM7 LM8 LM9 LM10 LM11 LM12 LM13 LM14 LM15 IM0 IM1 IM2 IM3) ⟨hx, hb, hml, hown, hG⟩ hM (hw_cwS 2 hG m_774 m_775 m_7 m_776 rfl rfl (by decide +kernel) ⟨Nat.le_of_ble_eq_true rfl, Nat.le_of_ble_eq_true rfl⟩) hK hP hD hS hA [] [0, 1, 2, 3, 4, 5, 6, 7, 8, 9, 10, 11, 12, 13, 14, 15, 16, 17, 18, 19, 20, 21, 22, 23] rfl rfl (by decide) (by decide) (by decide) rfl hl.1 rfl (Nat.le_of_ble_eq_true rfl) d_Model_unit_80 ⟨Nat.le_of_ble_eq_true rfl, Nat.le_of_ble_eq_true rfl⟩ (fun H locs hP hD hS => ?_)
        have hP : va_P (dC, dI) vwCl (w_M cI cJ cZ aM VM0 VM1 VM2 VM3 VM4 VM5 WM0 NM0 NM1 NM2 LM0 LM1 LM2 LM3 LM4 LM5 LM6 LM7 LM8 LM9 LM10 LM11 LM12 LM13 LM14 LM15 IM0 IM1 IM2 IM3) H := hP
        have hD : va_D A (w_M cI cJ cZ aM VM0 VM1 VM2 VM3 VM4 VM5 WM0 NM0 NM1 NM2 LM0 LM1 LM2 LM3 LM4 LM5 LM6 LM7 LM8 LM9 LM10 LM11 LM12 LM13 LM14 LM15 IM0 IM1 IM2 IM3) := hD
        refine lv_aload_n hx hb d_Model_unit_83 rfl (lv_at hl 1 rfl) ?_
        refine va_get (D := (dC, dI)) (ci := 5) (v := .ref (aM 13)) (C := R_Model) (T := T_Model) (N := 30) hx hb hG in_Model hown hK hP 0 rfl rfl 16 (by decide) (hG _ m_630) (fun _ h9 => h9) rfl d_Model_unit_84 ?_
        refine lv_iload hx hb d_Model_unit_87 (lv_at hl 8 rfl) ?_
        refine hw_lald (f := LM8) hx hb hK hP 13 1 rfl rfl (by decide) (by omega) d_Model_unit_89 ?_
        refine lv_ladd hx hb d_Model_unit_90 ?_
        refine lv_aload_n hx hb d_Model_unit_91 rfl (lv_at hl 1 rfl) ?_
        refine va_get (D := (dC, dI)) (ci := 5) (v := .ref (aM 11)) (C := R_Model) (T := T_Model) (N := 30) hx hb hG in_Model hown hK hP 0 rfl rfl 14 (by decide) (hG _ m_628) (fun _ h9 => h9) rfl d_Model_unit_92 ?_
        refine lv_iload hx hb d_Model_unit_95 (lv_at hl 8 rfl) ?_
        refine hw_lald (f := LM6) hx hb hK hP 11 1 rfl rfl (by decide) (by omega) d_Model_unit_97 ?_
        refine lv_lload hx hb d_Model_unit_98 (lv_at hl 6 rfl) ?_
        obtain ⟨y100, hy100, hR⟩ := hw_bind hR
        have hM := c_Model_apart l dC dI cI cJ cZ H.size (LM6 x10_27) (LM3 x2)
        rw [hy100] at hM
        refine hw_callSl (As := [.long (LM6 x10_27), .long (LM3 x2)]) (rest := [.long (y80 + (LM8 x10_27))]) (wr := w_M cI cJ cZ aM VM0 VM1 VM2 VM3 VM4 VM5 WM0 NM0 NM1 NM2 LM0 LM1 LM2 LM3 LM4 LM5 LM6 LM7 LM8 LM9 LM10 LM11 LM12 LM13 LM14 LM15 IM0 IM1 IM2 IM3) ⟨hx, hb, hml, hown, hG⟩ hM (hw_cwS 2 hG m_774 m_775 m_7 m_776 rfl rfl (by decide +kernel) ⟨Nat.le_of_ble_eq_true rfl, Nat.le_of_ble_eq_true rfl⟩) hK hP hD hS hA [] [0, 1, 2, 3, 4, 5, 6, 7, 8, 9, 10, 11, 12, 13, 14, 15, 16, 17, 18, 19, 20, 21, 22, 23] rfl rfl (by decide) (by decide) (by decide) rfl hl.1 rfl (Nat.le_of_ble_eq_true rfl) d_Model_unit_100 ⟨Nat.le_of_ble_eq_true rfl, Nat.le_of_ble_eq_true rfl⟩ (fun H locs hP hD hS => ?_)
        have hP : va_P (dC, dI) vwCl (w_M cI cJ cZ aM VM0 VM1 VM2 VM3 VM4 VM5 WM0 NM0 NM1 NM2 LM0 LM1 LM2 LM3 LM4 LM5 LM6 LM7 LM8 LM9 LM10 LM11 LM12 LM13 LM14 LM15 IM0 IM1 IM2 IM3) H := hP
        have hD : va_D A (w_M cI cJ cZ aM VM0 VM1 VM2 VM3 VM4 VM5 WM0 NM0 NM1 NM2 LM0 LM1 LM2 LM3 LM4 LM5 LM6 LM7 LM8 LM9 LM10 LM11 LM12 LM13 LM14 LM15 IM0 IM1 IM2 IM3) := hD
        refine lv_ladd hx hb d_Model_unit_103 ?_
        refine lv_lstore (lv' := [(13, .long ((y80 + (LM8 x10_27)) + y100)), (11, .long ((y45 + (LM8 x10_27)) + y65)), (0, .ref (aM 0)), (1, .int (nI x1)), (2, .int (nI x2)), (3, .int x3), (4, .long y2), (6, .long (LM3 x2)), (8, .long x8_27), (10, .int (nI x10_27))]) hx hb d_Model_unit_104 hl (by decide) rfl (fun ls hl => ?_)
        refine lv_iload hx hb d_Model_unit_106 (lv_at hl 9 rfl) ?_
        refine lv_iload_n hx hb d_Model_unit_108 rfl (lv_at hl 5 rfl) ?_
        refine lv_icmp_eq (tgt := 166) hx hb d_Model_unit_109 (by decide) (fun c109 => ?_) (fun c109 => ?_)
        · replace hR := (if_pos c109).symm.trans hR
          refine lv_iinc (v := nI (x10_27 + 1)) (lv' := [(10, .int (nI (x10_27 + 1))), (13, .long ((y80 + (LM8 x10_27)) + y100)), (11, .long ((y45 + (LM8 x10_27)) + y65)), (0, .ref (aM 0)), (1, .int (nI x1)), (2, .int (nI x2)), (3, .int x3), (4, .long y2), (6, .long (LM3 x2)), (8, .long x8_27)]) hx hb d_Model_unit_166 hl (k := 9) rfl (hw_inc _ 1) (by decide) rfl (fun ls hl => ?_)
          refine lv_goto (tgt := 27) hx hb d_Model_unit_169 (by decide) ?_
          rw [hrec_27] at hR
          exact ih_27 x8_27 (x10_27 + 1) (by first | assumption | omega | exact hw_upb (by assumption) (by omega)) (by omega) H locs hP hD hS ls (lv_sub hl [3, 4, 5, 6, 7, 8, 9, 0] rfl) hR
        · replace hR := (if_neg c109).symm.trans hR
          refine lv_aload_n hx hb d_Model_unit_112 rfl (lv_at hl 2 rfl) ?_
          refine va_get (D := (dC, dI)) (ci := 5) (v := .ref (aM 14)) (C := R_Model) (T := T_Model) (N := 30) hx hb hG in_Model hown hK hP 0 rfl rfl 17 (by decide) (hG _ m_631) (fun _ h9 => h9) rfl d_Model_unit_113 ?_
          refine lv_bipush (v := nI 12) hx hb d_Model_unit_116 (by decide) ?_
          refine lv_iload hx hb d_Model_unit_118 (lv_at hl 9 rfl) ?_
          refine hw_imul hx hb d_Model_unit_120 ?_
          refine lv_aload_n hx hb d_Model_unit_121 rfl (lv_at hl 2 rfl) ?_
          refine va_get (D := (dC, dI)) (ci := 5) (v := .ref (aM 6)) (C := R_Model) (T := T_Model) (N := 30) hx hb hG in_Model hown hK hP 0 rfl rfl 8 (by decide) (hG _ m_622) (fun _ h9 => h9) rfl d_Model_unit_122 ?_
          refine lv_iload_n hx hb d_Model_unit_125 rfl (lv_at hl 4 rfl) ?_
          refine hw_nald (g := NM2) hx hb hK hP 6 0 rfl rfl (by decide) (by omega) d_Model_unit_126 ?_
          have hb126 := mfw x2
          refine hw_iadd hx hb d_Model_unit_127 ?_
          refine hw_zald (f := IM1) hx hb hK hP 14 2 rfl rfl (by decide) (by omega) d_Model_unit_128 ?_
          refine lv_if_ne (tgt := 166) hx hb d_Model_unit_129 (by decide) (fun c129 => ?_) (fun c129 => ?_)
          · replace hR := (if_neg c129).symm.trans hR
            refine lv_iinc (v := nI (x10_27 + 1)) (lv' := [(10, .int (nI (x10_27 + 1))), (13, .long ((y80 + (LM8 x10_27)) + y100)), (11, .long ((y45 + (LM8 x10_27)) + y65)), (0, .ref (aM 0)), (1, .int (nI x1)), (2, .int (nI x2)), (3, .int x3), (4, .long y2), (6, .long (LM3 x2)), (8, .long x8_27)]) hx hb d_Model_unit_166 hl (k := 9) rfl (hw_inc _ 1) (by decide) rfl (fun ls hl => ?_)
            refine lv_goto (tgt := 27) hx hb d_Model_unit_169 (by decide) ?_
            rw [hrec_27] at hR
            exact ih_27 x8_27 (x10_27 + 1) (by first | assumption | omega | exact hw_upb (by assumption) (by omega)) (by omega) H locs hP hD hS ls (lv_sub hl [3, 4, 5, 6, 7, 8, 9, 0] rfl) hR
          · replace hR := (if_pos c129).symm.trans hR
            refine lv_lload hx hb d_Model_unit_132 (lv_at hl 1 rfl) ?_
            refine lv_lload hx hb d_Model_unit_134 (lv_at hl 8 rfl) ?_
            refine hw_lcmp_ge (tgt := 145) hx hb d_Model_unit_136 d_Model_unit_137 (by decide) (fun c136 => ?_) (fun c136 => ?_)
            · replace hR := (if_pos c136).symm.trans hR
              refine lv_lload hx hb d_Model_unit_145 (lv_at hl 8 rfl) ?_
              refine lv_lstore (lv' := [(8, .long x8_27), (13, .long ((y80 + (LM8 x10_27)) + y100)), (11, .long ((y45 + (LM8 x10_27)) + y65)), (0, .ref (aM 0)), (1, .int (nI x1)), (2, .int (nI x2)), (3, .int x3), (4, .long y2), (6, .long (LM3 x2)), (10, .int (nI x10_27))]) hx hb d_Model_unit_147 hl (by decide) rfl (fun ls hl => ?_)
              refine lv_lload hx hb d_Model_unit_149 (lv_at hl 1 rfl) ?_
              refine lv_lload hx hb d_Model_unit_151 (lv_at hl 0 rfl) ?_
              refine hw_lcmp_ge (tgt := 162) hx hb d_Model_unit_153 d_Model_unit_154 (by decide) (fun c153 => ?_) (fun c153 => ?_)
              · replace hR := (if_pos c153).symm.trans hR
                refine lv_lload hx hb d_Model_unit_162 (lv_at hl 0 rfl) ?_
                refine lv_lstore (lv' := [(8, .long x8_27), (13, .long ((y80 + (LM8 x10_27)) + y100)), (11, .long ((y45 + (LM8 x10_27)) + y65)), (0, .ref (aM 0)), (1, .int (nI x1)), (2, .int (nI x2)), (3, .int x3), (4, .long y2), (6, .long (LM3 x2)), (10, .int (nI x10_27))]) hx hb d_Model_unit_164 hl (by decide) rfl (fun ls hl => ?_)
                refine lv_iinc (v := nI (x10_27 + 1)) (lv' := [(10, .int (nI (x10_27 + 1))), (8, .long x8_27), (13, .long ((y80 + (LM8 x10_27)) + y100)), (11, .long ((y45 + (LM8 x10_27)) + y65)), (0, .ref (aM 0)), (1, .int (nI x1)), (2, .int (nI x2)), (3, .int x3), (4, .long y2), (6, .long (LM3 x2))]) hx hb d_Model_unit_166 hl (k := 9) rfl (hw_inc _ 1) (by decide) rfl (fun ls hl => ?_)
                refine lv_goto (tgt := 27) hx hb d_Model_unit_169 (by decide) ?_
                rw [hrec_27] at hR
                exact ih_27 x8_27 (x10_27 + 1) (by first | assumption | omega | exact hw_upb (by assumption) (by omega)) (by omega) H locs hP hD hS ls (lv_sub hl [4, 5, 6, 7, 8, 9, 1, 0] rfl) hR
              · replace hR := (if_neg c153).symm.trans hR
                refine lv_lload hx hb d_Model_unit_157 (lv_at hl 1 rfl) ?_
                refine lv_goto (tgt := 164) hx hb d_Model_unit_159 (by decide) ?_
                refine lv_lstore (lv' := [(8, .long ((y80 + (LM8 x10_27)) + y100)), (13, .long ((y80 + (LM8 x10_27)) + y100)), (11, .long ((y45 + (LM8 x10_27)) + y65)), (0, .ref (aM 0)), (1, .int (nI x1)), (2, .int (nI x2)), (3, .int x3), (4, .long y2), (6, .long (LM3 x2)), (10, .int (nI x10_27))]) hx hb d_Model_unit_164 hl (by decide) rfl (fun ls hl => ?_)
                refine lv_iinc (v := nI (x10_27 + 1)) (lv' := [(10, .int (nI (x10_27 + 1))), (8, .long ((y80 + (LM8 x10_27)) + y100)), (13, .long ((y80 + (LM8 x10_27)) + y100)), (11, .long ((y45 + (LM8 x10_27)) + y65)), (0, .ref (aM 0)), (1, .int (nI x1)), (2, .int (nI x2)), (3, .int x3), (4, .long y2), (6, .long (LM3 x2))]) hx hb d_Model_unit_166 hl (k := 9) rfl (hw_inc _ 1) (by decide) rfl (fun ls hl => ?_)
                refine lv_goto (tgt := 27) hx hb d_Model_unit_169 (by decide) ?_
                rw [hrec_27] at hR
                exact ih_27 ((y80 + (LM8 x10_27)) + y100) (x10_27 + 1) (by first | assumption | omega | exact hw_upb (by assumption) (by omega)) (by omega) H locs hP hD hS ls (lv_sub hl [4, 5, 6, 7, 8, 9, 1, 0] rfl) hR
            · replace hR := (if_neg c136).symm.trans hR
              refine lv_lload hx hb d_Model_unit_140 (lv_at hl 1 rfl) ?_
              refine lv_goto (tgt := 147) hx hb d_Model_unit_142 (by decide) ?_
              refine lv_lstore (lv' := [(8, .long ((y45 + (LM8 x10_27)) + y65)), (13, .long ((y80 + (LM8 x10_27)) + y100)), (11, .long ((y45 + (LM8 x10_27)) + y65)), (0, .ref (aM 0)), (1, .int (nI x1)), (2, .int (nI x2)), (3, .int x3), (4, .long y2), (6, .long (LM3 x2)), (10, .int (nI x10_27))]) hx hb d_Model_unit_147 hl (by decide) rfl (fun ls hl => ?_)
              refine lv_lload hx hb d_Model_unit_149 (lv_at hl 1 rfl) ?_
              refine lv_lload hx hb d_Model_unit_151 (lv_at hl 0 rfl) ?_
              refine hw_lcmp_ge (tgt := 162) hx hb d_Model_unit_153 d_Model_unit_154 (by decide) (fun c153 => ?_) (fun c153 => ?_)
              · replace hR := (if_pos c153).symm.trans hR
                refine lv_lload hx hb d_Model_unit_162 (lv_at hl 0 rfl) ?_
                refine lv_lstore (lv' := [(8, .long ((y45 + (LM8 x10_27)) + y65)), (13, .long ((y80 + (LM8 x10_27)) + y100)), (11, .long ((y45 + (LM8 x10_27)) + y65)), (0, .ref (aM 0)), (1, .int (nI x1)), (2, .int (nI x2)), (3, .int x3), (4, .long y2), (6, .long (LM3 x2)), (10, .int (nI x10_27))]) hx hb d_Model_unit_164 hl (by decide) rfl (fun ls hl => ?_)
                refine lv_iinc (v := nI (x10_27 + 1)) (lv' := [(10, .int (nI (x10_27 + 1))), (8, .long ((y45 + (LM8 x10_27)) + y65)), (13, .long ((y80 + (LM8 x10_27)) + y100)), (11, .long ((y45 + (LM8 x10_27)) + y65)), (0, .ref (aM 0)), (1, .int (nI x1)), (2, .int (nI x2)), (3, .int x3), (4, .long y2), (6, .long (LM3 x2))]) hx hb d_Model_unit_166 hl (k := 9) rfl (hw_inc _ 1) (by decide) rfl (fun ls hl => ?_)
                refine lv_goto (tgt := 27) hx hb d_Model_unit_169 (by decide) ?_
                rw [hrec_27] at hR
                exact ih_27 ((y45 + (LM8 x10_27)) + y65) (x10_27 + 1) (by first | assumption | omega | exact hw_upb (by assumption) (by omega)) (by omega) H locs hP hD hS ls (lv_sub hl [4, 5, 6, 7, 8, 9, 1, 0] rfl) hR
              · replace hR := (if_neg c153).symm.trans hR
                refine lv_lload hx hb d_Model_unit_157 (lv_at hl 1 rfl) ?_
                refine lv_goto (tgt := 164) hx hb d_Model_unit_159 (by decide) ?_
                refine lv_lstore (lv' := [(8, .long ((y80 + (LM8 x10_27)) + y100)), (13, .long ((y80 + (LM8 x10_27)) + y100)), (11, .long ((y45 + (LM8 x10_27)) + y65)), (0, .ref (aM 0)), (1, .int (nI x1)), (2, .int (nI x2)), (3, .int x3), (4, .long y2), (6, .long (LM3 x2)), (10, .int (nI x10_27))]) hx hb d_Model_unit_164 hl (by decide) rfl (fun ls hl => ?_)
                refine lv_iinc (v := nI (x10_27 + 1)) (lv' := [(10, .int (nI (x10_27 + 1))), (8, .long ((y80 + (LM8 x10_27)) + y100)), (13, .long ((y80 + (LM8 x10_27)) + y100)), (11, .long ((y45 + (LM8 x10_27)) + y65)), (0, .ref (aM 0)), (1, .int (nI x1)), (2, .int (nI x2)), (3, .int x3), (4, .long y2), (6, .long (LM3 x2))]) hx hb d_Model_unit_166 hl (k := 9) rfl (hw_inc _ 1) (by decide) rfl (fun ls hl => ?_)
                refine lv_goto (tgt := 27) hx hb d_Model_unit_169 (by decide) ?_
                rw [hrec_27] at hR
                exact ih_27 ((y80 + (LM8 x10_27)) + y100) (x10_27 + 1) (by first | assumption | omega | exact hw_upb (by assumption) (by omega)) (by omega) H locs hP hD hS ls (lv_sub hl [4, 5, 6, 7, 8, 9, 1, 0] rfl) hR
  exact L_27 7 y19 0 (by first | assumption | omega | exact hw_upb (by assumption) (by omega)) (by omega) H locs hP hD hS ls (lv_sub hl [4, 5, 6, 7, 3, 2, 1, 0] rfl) hR
def f_Model_goes (VM1 : Nat) (NM0 : Nat → Nat) (NM1 : Nat → Nat) (NM2 : Nat → Nat) (LM13 : Nat → Int64) (IM0 : Nat → Int32) (x1 : Nat) (x2 : Nat) : Int64 :=
  hh_bind (f_Model_serves VM1 NM0 NM1 NM2 IM0 x1 x2) (fun y3 => if y3 = 0 then (0) else (LM13 (((34 * (13 + x2)) + 1) + x1)))
set_option maxHeartbeats 4000000 in
set_option maxRecDepth 100000 in
theorem c_Model_goes (l : Launch) (dC : Nat → ClassId) (dI : Nat → Nat → Nat) (cI cJ cZ : ClassId) (sz : Nat) (aM : Nat → Nat) (VM0 : Nat) (VM1 : Nat) (VM2 : Nat) (VM3 : Nat) (VM4 : Nat) (VM5 : Nat) (WM0 : Int64) (NM0 : Nat → Nat) (NM1 : Nat → Nat) (NM2 : Nat → Nat) (LM0 : Nat → Int64) (LM1 : Nat → Int64) (LM2 : Nat → Int64) (LM3 : Nat → Int64) (LM4 : Nat → Int64) (LM5 : Nat → Int64) (LM6 : Nat → Int64) (LM7 : Nat → Int64) (LM8 : Nat → Int64) (LM9 : Nat → Int64) (LM10 : Nat → Int64) (LM11 : Nat → Int64) (LM12 : Nat → Int64) (LM13 : Nat → Int64) (LM14 : Nat → Int64) (LM15 : Nat → Int64) (IM0 : Nat → Int32) (IM1 : Nat → Int32) (IM2 : Nat → Int32) (IM3 : Nat → Int32) (x1 : Nat) (x2 : Nat) (m1 : VM1 ≤ 8) (mk4 : ∀ i, NM0 i < 4) (mcw : ∀ i, NM1 i < 12) (mfw : ∀ i, NM2 i < 12) (hx1 : x1 < 12) (hx2 : x2 < 8) : hh_Cl l y_Model_goes u_Model_goes ({ frames := 1, cells := 0, slots := 0, locals := 22 }) (dC, dI) vwCl [(cI, .int), (cJ, .long), (cZ, .boolean)] (w_M cI cJ cZ aM VM0 VM1 VM2 VM3 VM4 VM5 WM0 NM0 NM1 NM2 LM0 LM1 LM2 LM3 LM4 LM5 LM6 LM7 LM8 LM9 LM10 LM11 LM12 LM13 LM14 LM15 IM0 IM1 IM2 IM3) sz [.ref (aM 0), .int (nI x1), .int (nI x2)] (f_Model_goes VM1 NM0 NM1 NM2 LM13 IM0 x1 x2) (w_M cI cJ cZ aM VM0 VM1 VM2 VM3 VM4 VM5 WM0 NM0 NM1 NM2 LM0 LM1 LM2 LM3 LM4 LM5 LM6 LM7 LM8 LM9 LM10 LM11 LM12 LM13 LM14 LM15 IM0 IM1 IM2 IM3) 0 0 := by
  unfold hh_Cl
  refine Met.ofW (cc := b_Model_goes) (maxL := 3) (ret := (some .long)) (by decide) rfl ?_
  intro p e s m args below meth c s₁ B hml hv
  obtain ⟨rfl, hsz, hP, hK, hD0⟩ := hv
  have hx := B.exec
  have hb := B.bytes
  have hr := B.returns
  have hts := atoms_spec (ws := u_Model_goes) B.pre
  have hG : ∀ w ∈ wG, w.before ([.ref (aM 0), .int (nI x1), .int (nI x2)]).toArray s = true := fun w h => hts w (List.mem_cons_of_mem _ h)
  have hown : s.vm.findClass R_Model = some m.cls := findClass_of_methodNamed B.named
  have hlocks := B.notSynchronized
  subst hsz
  have hD := hD0.self (sz := s.heap.size)
  generalize hAe : va_A (w_M cI cJ cZ aM VM0 VM1 VM2 VM3 VM4 VM5 WM0 NM0 NM1 NM2 LM0 LM1 LM2 LM3 LM4 LM5 LM6 LM7 LM8 LM9 LM10 LM11 LM12 LM13 LM14 LM15 IM0 IM1 IM2 IM3) s.heap.size = A at hD ⊢
  have hA : ∀ q : Nat, s.heap.size ≤ q → A q := fun q h => by rw [← hAe]; exact Or.inr h
  have hS : va_S A s.heap s.heap [] := va_S.rf
  have hl := lv_entry ([.ref (aM 0), .int (nI x1), .int (nI x2)]) (n := 3) (Nat.le_of_ble_eq_true rfl)
  rw [lg_entry_eq]
  generalize (lg_sl ([.ref (aM 0), .int (nI x1), .int (nI x2)]) ++ List.replicate (3 - (lg_sl ([.ref (aM 0), .int (nI x1), .int (nI x2)])).length) Slot.unset).toArray = ls at hl ⊢
  have hl : lv_has ls 3 [(0, .ref (aM 0)), (1, .int (nI x1)), (2, .int (nI x2))] := hl
  generalize hR : f_Model_goes VM1 NM0 NM1 NM2 LM13 IM0 x1 x2 = r0
  obtain ⟨H, locs, hHe, hle⟩ : ∃ (H : Heap) (locs : List Loc), s.heap = H ∧ [] = locs := ⟨_, _, rfl, rfl⟩
  have hP : va_P (dC, dI) vwCl (w_M cI cJ cZ aM VM0 VM1 VM2 VM3 VM4 VM5 WM0 NM0 NM1 NM2 LM0 LM1 LM2 LM3 LM4 LM5 LM6 LM7 LM8 LM9 LM10 LM11 LM12 LM13 LM14 LM15 IM0 IM1 IM2 IM3) H := by rw [← hHe]; exact hP
  have hS : va_S A s.heap H locs := by rw [← hHe, ← hle]; exact hS
  refine hw_start hHe hle ?_
  unfold f_Model_goes at hR
  refine lv_aload_n hx hb d_Model_goes_0 rfl (lv_at hl 0 rfl) ?_
  refine lv_iload_n hx hb d_Model_goes_1 rfl (lv_at hl 1 rfl) ?_
  refine lv_iload_n hx hb d_Model_goes_2 rfl (lv_at hl 2 rfl) ?_
  obtain ⟨y3, hy3, hR⟩ := hw_bind hR
  have hM := c_Model_serves l dC dI cI cJ cZ H.size aM VM0 VM1 VM2 VM3 VM4 VM5 WM0 NM0 NM1 NM2 LM0 LM1 LM2 LM3 LM4 LM5 LM6 LM7 LM8 LM9 LM10 LM11 LM12 LM13 LM14 LM15 IM0 IM1 IM2 IM3 x1 x2 (by first | assumption | omega) (by first | assumption | omega) (by first | assumption | omega) (by first | assumption | omega) (by first | assumption | omega) (by first | assumption | omega)
  rw [hy3] at hM
  refine hw_callVi (As := [.int (nI x1), .int (nI x2)]) (rest := []) (wr := ([] : va_W)) ⟨hx, hb, hml, hown, hG⟩ hM (hw_cwV 2 hG m_762 m_764 mp_23 m_7 m_765 rfl rfl (by decide +kernel) ⟨Nat.le_of_ble_eq_true rfl, Nat.le_of_ble_eq_true rfl⟩) hK hP hD hS hA [0, 1, 2, 3, 4, 5, 6, 7, 8, 9, 10, 11, 12, 13, 14, 15, 16, 17, 18, 19, 20, 21, 22, 23] [] rfl rfl (by decide) (by decide) (by decide) (hw_recv hK hP 0 rfl rfl) rfl hl.1 rfl (Nat.le_of_ble_eq_true rfl) d_Model_goes_3 ⟨Nat.le_of_ble_eq_true rfl, Nat.le_of_ble_eq_true rfl⟩ (fun H locs hP hD hS => ?_)
  have hP : va_P (dC, dI) vwCl (w_M cI cJ cZ aM VM0 VM1 VM2 VM3 VM4 VM5 WM0 NM0 NM1 NM2 LM0 LM1 LM2 LM3 LM4 LM5 LM6 LM7 LM8 LM9 LM10 LM11 LM12 LM13 LM14 LM15 IM0 IM1 IM2 IM3) H := hP
  have hD : va_D A (w_M cI cJ cZ aM VM0 VM1 VM2 VM3 VM4 VM5 WM0 NM0 NM1 NM2 LM0 LM1 LM2 LM3 LM4 LM5 LM6 LM7 LM8 LM9 LM10 LM11 LM12 LM13 LM14 LM15 IM0 IM1 IM2 IM3) := hD
  refine lv_if_eq (tgt := 28) hx hb d_Model_goes_6 (by decide) (fun c6 => ?_) (fun c6 => ?_)
  · replace hR := (if_pos c6).symm.trans hR
    refine lv_lconst (v := 0) hx hb d_Model_goes_28 (by decide) ?_
    subst hR
    exact W.lret (v := 0) hx hb hr (fun t ht hW => ⟨⟨_, (), rfl, rfl, by rw [ht]; exact hP, va_K.moved hW.alike hK, hD⟩, hS.F ht⟩) hS.2.2 d_Model_goes_29
  · replace hR := (if_neg c6).symm.trans hR
    refine lv_aload_n hx hb d_Model_goes_9 rfl (lv_at hl 0 rfl) ?_
    refine va_get (D := (dC, dI)) (ci := 5) (v := .ref (aM 20)) (C := R_Model) (T := T_Model) (N := 30) hx hb hG in_Model hown hK hP 0 rfl rfl 26 (by decide) (hG _ m_640) (fun _ h9 => h9) rfl d_Model_goes_10 ?_
    refine lv_bipush (v := nI 34) hx hb d_Model_goes_13 (by decide) ?_
    refine lv_bipush (v := nI 13) hx hb d_Model_goes_15 (by decide) ?_
    refine lv_iload_n hx hb d_Model_goes_17 rfl (lv_at hl 2 rfl) ?_
    refine hw_iadd hx hb d_Model_goes_18 ?_
    refine hw_imul hx hb d_Model_goes_19 ?_
    refine lv_iconst (v := nI 1) hx hb d_Model_goes_20 (by decide) ?_
    refine hw_iadd hx hb d_Model_goes_21 ?_
    refine lv_iload_n hx hb d_Model_goes_22 rfl (lv_at hl 1 rfl) ?_
    refine hw_iadd hx hb d_Model_goes_23 ?_
    refine hw_lald (f := LM13) hx hb hK hP 20 1 rfl rfl (by decide) (by omega) d_Model_goes_24 ?_
    refine lv_goto (tgt := 29) hx hb d_Model_goes_25 (by decide) ?_
    subst hR
    exact W.lret (v := LM13 (((34 * (13 + x2)) + 1) + x1)) hx hb hr (fun t ht hW => ⟨⟨_, (), rfl, rfl, by rw [ht]; exact hP, va_K.moved hW.alike hK, hD⟩, hS.F ht⟩) hS.2.2 d_Model_goes_29
def f_Model_total_h20B (VM2 : Nat) (VM1 : Nat) (NM0 : Nat → Nat) (NM1 : Nat → Nat) (NM2 : Nat → Nat) (LM13 : Nat → Int64) (IM0 : Nat → Int32) (x3_4 : Nat) (LM14 : Nat → Int64) (k_20 : (Int64) → (Nat) → Int64) (rec_20 : (Int64) → (Nat) → Int64) (x1_20 : Int64) (x4_20 : Nat) : Int64 :=
  if VM2 ≤ x4_20 then (k_20 x1_20 x4_20) else (hh_bind (f_Model_goes VM1 NM0 NM1 NM2 LM13 IM0 x3_4 x4_20) (fun y34 => rec_20 (x1_20 + (y34 * (LM14 (((34 * (1 + x3_4)) + 13) + x4_20)))) (x4_20 + 1)))
def f_Model_total_h20 (VM2 : Nat) (VM1 : Nat) (NM0 : Nat → Nat) (NM1 : Nat → Nat) (NM2 : Nat → Nat) (LM13 : Nat → Int64) (IM0 : Nat → Int32) (x3_4 : Nat) (LM14 : Nat → Int64) (k_20 : (Int64) → (Nat) → Int64) : Nat → (Int64) → (Nat) → Int64
  | 0, x1_20, x4_20 => k_20 x1_20 x4_20
  | n + 1, x1_20, x4_20 => f_Model_total_h20B VM2 VM1 NM0 NM1 NM2 LM13 IM0 x3_4 LM14 k_20 (fun x1_20 x4_20 => f_Model_total_h20 VM2 VM1 NM0 NM1 NM2 LM13 IM0 x3_4 LM14 k_20 n x1_20 x4_20) x1_20 x4_20
def f_Model_total_x20 (rec_4 : (Int64) → (Nat) → Int64) (x3_4 : Nat) (x1_20 : Int64) (x4_20 : Nat) : Int64 :=
  rec_4 x1_20 (x3_4 + 1)
def f_Model_total_h4B (VM1 : Nat) (VM4 : Nat) (VM2 : Nat) (NM0 : Nat → Nat) (NM1 : Nat → Nat) (NM2 : Nat → Nat) (LM13 : Nat → Int64) (IM0 : Nat → Int32) (LM14 : Nat → Int64) (k_4 : (Int64) → (Nat) → Int64) (rec_4 : (Int64) → (Nat) → Int64) (x1_4 : Int64) (x3_4 : Nat) : Int64 :=
  if (VM1 + VM4) ≤ x3_4 then (k_4 x1_4 x3_4) else (f_Model_total_h20 VM2 VM1 NM0 NM1 NM2 LM13 IM0 x3_4 LM14 (f_Model_total_x20 rec_4 x3_4) 9 x1_4 0)
def f_Model_total_h4 (VM1 : Nat) (VM4 : Nat) (VM2 : Nat) (NM0 : Nat → Nat) (NM1 : Nat → Nat) (NM2 : Nat → Nat) (LM13 : Nat → Int64) (IM0 : Nat → Int32) (LM14 : Nat → Int64) (k_4 : (Int64) → (Nat) → Int64) : Nat → (Int64) → (Nat) → Int64
  | 0, x1_4, x3_4 => k_4 x1_4 x3_4
  | n + 1, x1_4, x3_4 => f_Model_total_h4B VM1 VM4 VM2 NM0 NM1 NM2 LM13 IM0 LM14 k_4 (fun x1_4 x3_4 => f_Model_total_h4 VM1 VM4 VM2 NM0 NM1 NM2 LM13 IM0 LM14 k_4 n x1_4 x3_4) x1_4 x3_4
def f_Model_total_x4  (x1_4 : Int64) (x3_4 : Nat) : Int64 :=
  (x1_4)
def f_Model_total (VM1 : Nat) (VM2 : Nat) (VM4 : Nat) (NM0 : Nat → Nat) (NM1 : Nat → Nat) (NM2 : Nat → Nat) (LM13 : Nat → Int64) (LM14 : Nat → Int64) (IM0 : Nat → Int32) : Int64 :=
  f_Model_total_h4 VM1 VM4 VM2 NM0 NM1 NM2 LM13 IM0 LM14 f_Model_total_x4 13 0 0
set_option maxHeartbeats 4000000 in
set_option maxRecDepth 100000 in
theorem c_Model_total (l : Launch) (dC : Nat → ClassId) (dI : Nat → Nat → Nat) (cI cJ cZ : ClassId) (sz : Nat) (aM : Nat → Nat) (VM0 : Nat) (VM1 : Nat) (VM2 : Nat) (VM3 : Nat) (VM4 : Nat) (VM5 : Nat) (WM0 : Int64) (NM0 : Nat → Nat) (NM1 : Nat → Nat) (NM2 : Nat → Nat) (LM0 : Nat → Int64) (LM1 : Nat → Int64) (LM2 : Nat → Int64) (LM3 : Nat → Int64) (LM4 : Nat → Int64) (LM5 : Nat → Int64) (LM6 : Nat → Int64) (LM7 : Nat → Int64) (LM8 : Nat → Int64) (LM9 : Nat → Int64) (LM10 : Nat → Int64) (LM11 : Nat → Int64) (LM12 : Nat → Int64) (LM13 : Nat → Int64) (LM14 : Nat → Int64) (LM15 : Nat → Int64) (IM0 : Nat → Int32) (IM1 : Nat → Int32) (IM2 : Nat → Int32) (IM3 : Nat → Int32) (m1 : VM1 ≤ 8) (m2 : VM2 ≤ 8) (m4 : VM4 ≤ 4) (mk4 : ∀ i, NM0 i < 4) (mcw : ∀ i, NM1 i < 12) (mfw : ∀ i, NM2 i < 12) : hh_Cl l y_Model_total u_Model_total ({ frames := 2, cells := 0, slots := 0, locals := 44 }) (dC, dI) vwCl [(cI, .int), (cJ, .long), (cZ, .boolean)] (w_M cI cJ cZ aM VM0 VM1 VM2 VM3 VM4 VM5 WM0 NM0 NM1 NM2 LM0 LM1 LM2 LM3 LM4 LM5 LM6 LM7 LM8 LM9 LM10 LM11 LM12 LM13 LM14 LM15 IM0 IM1 IM2 IM3) sz [.ref (aM 0)] (f_Model_total VM1 VM2 VM4 NM0 NM1 NM2 LM13 LM14 IM0) (w_M cI cJ cZ aM VM0 VM1 VM2 VM3 VM4 VM5 WM0 NM0 NM1 NM2 LM0 LM1 LM2 LM3 LM4 LM5 LM6 LM7 LM8 LM9 LM10 LM11 LM12 LM13 LM14 LM15 IM0 IM1 IM2 IM3) 0 0 := by
  unfold hh_Cl
  refine Met.ofW (cc := b_Model_total) (maxL := 5) (ret := (some .long)) (by decide) rfl ?_
  intro p e s m args below meth c s₁ B hml hv
  obtain ⟨rfl, hsz, hP, hK, hD0⟩ := hv
  have hx := B.exec
  have hb := B.bytes
  have hr := B.returns
  have hts := atoms_spec (ws := u_Model_total) B.pre
  have hG : ∀ w ∈ wG, w.before ([.ref (aM 0)]).toArray s = true := fun w h => hts w (List.mem_cons_of_mem _ h)
  have hown : s.vm.findClass R_Model = some m.cls := findClass_of_methodNamed B.named
  have hlocks := B.notSynchronized
  subst hsz
  have hD := hD0.self (sz := s.heap.size)
  generalize hAe : va_A (w_M cI cJ cZ aM VM0 VM1 VM2 VM3 VM4 VM5 WM0 NM0 NM1 NM2 LM0 LM1 LM2 LM3 LM4 LM5 LM6 LM7 LM8 LM9 LM10 LM11 LM12 LM13 LM14 LM15 IM0 IM1 IM2 IM3) s.heap.size = A at hD ⊢
  have hA : ∀ q : Nat, s.heap.size ≤ q → A q := fun q h => by rw [← hAe]; exact Or.inr h
  have hS : va_S A s.heap s.heap [] := va_S.rf
  have hl := lv_entry ([.ref (aM 0)]) (n := 5) (Nat.le_of_ble_eq_true rfl)
  rw [lg_entry_eq]
  generalize (lg_sl ([.ref (aM 0)]) ++ List.replicate (5 - (lg_sl ([.ref (aM 0)])).length) Slot.unset).toArray = ls at hl ⊢
  have hl : lv_has ls 5 [(0, .ref (aM 0))] := hl
  generalize hR : f_Model_total VM1 VM2 VM4 NM0 NM1 NM2 LM13 LM14 IM0 = r0
  obtain ⟨H, locs, hHe, hle⟩ : ∃ (H : Heap) (locs : List Loc), s.heap = H ∧ [] = locs := ⟨_, _, rfl, rfl⟩
  have hP : va_P (dC, dI) vwCl (w_M cI cJ cZ aM VM0 VM1 VM2 VM3 VM4 VM5 WM0 NM0 NM1 NM2 LM0 LM1 LM2 LM3 LM4 LM5 LM6 LM7 LM8 LM9 LM10 LM11 LM12 LM13 LM14 LM15 IM0 IM1 IM2 IM3) H := by rw [← hHe]; exact hP
  have hS : va_S A s.heap H locs := by rw [← hHe, ← hle]; exact hS
  refine hw_start hHe hle ?_
  unfold f_Model_total at hR
  refine lv_lconst (v := 0) hx hb d_Model_total_0 (by decide) ?_
  refine lv_lstore_n (lv' := [(1, .long 0), (0, .ref (aM 0))]) hx hb d_Model_total_1 rfl hl (by decide) rfl (fun ls hl => ?_)
  refine lv_iconst (v := nI 0) hx hb d_Model_total_2 (by decide) ?_
  refine lv_istore_n (lv' := [(3, .int (nI 0)), (1, .long 0), (0, .ref (aM 0))]) hx hb d_Model_total_3 rfl hl (by decide) rfl (fun ls hl => ?_)
  obtain ⟨k_4, hk_4, hR⟩ : ∃ k, f_Model_total_x4 = k ∧ f_Model_total_h4 VM1 VM4 VM2 NM0 NM1 NM2 LM13 IM0 LM14 k 13 0 0 = r0 := ⟨_, rfl, hR⟩
  have X_4 : ∀ (x1_4 : Int64) (x3_4 : Nat) (hi : x3_4 ≤ (VM1 + VM4)) (H : Heap) (locs : List Loc) (hP : va_P (dC, dI) vwCl (w_M cI cJ cZ aM VM0 VM1 VM2 VM3 VM4 VM5 WM0 NM0 NM1 NM2 LM0 LM1 LM2 LM3 LM4 LM5 LM6 LM7 LM8 LM9 LM10 LM11 LM12 LM13 LM14 LM15 IM0 IM1 IM2 IM3) H) (hD : va_D A (w_M cI cJ cZ aM VM0 VM1 VM2 VM3 VM4 VM5 WM0 NM0 NM1 NM2 LM0 LM1 LM2 LM3 LM4 LM5 LM6 LM7 LM8 LM9 LM10 LM11 LM12 LM13 LM14 LM15 IM0 IM1 IM2 IM3)) (hS : va_S A s.heap H locs) (ls : Array Slot) (hl : lv_has ls 5 [(0, .ref (aM 0)), (1, .long x1_4), (3, .int (nI x3_4))]) (hR : k_4 x1_4 x3_4 = r0), W p l e (headSpec u_Model_total ({ frames := 2, cells := 0, slots := 0, locals := 44 })).room s m ([.ref (aM 0)]).toArray below meth c H locs 0 0 (hh_Zl below (dC, dI) vwCl [(cI, .int), (cJ, .long), (cZ, .boolean)] A r0 (w_M cI cJ cZ aM VM0 VM1 VM2 VM3 VM4 VM5 WM0 NM0 NM1 NM2 LM0 LM1 LM2 LM3 LM4 LM5 LM6 LM7 LM8 LM9 LM10 LM11 LM12 LM13 LM14 LM15 IM0 IM1 IM2 IM3) ([.ref (aM 0)]).toArray s) (F0 m 69 ls []) := by
    intro x1_4 x3_4 hi H locs hP hD hS ls hl hR
    rw [← hk_4] at hR
    unfold f_Model_total_x4 at hR
    refine lv_lload_n hx hb d_Model_total_69 rfl (lv_at hl 1 rfl) ?_
    subst hR
    exact W.lret (v := x1_4) hx hb hr (fun t ht hW => ⟨⟨_, (), rfl, rfl, by rw [ht]; exact hP, va_K.moved hW.alike hK, hD⟩, hS.F ht⟩) hS.2.2 d_Model_total_70
  have L_4 : ∀ (n : Nat) (x1_4 : Int64) (x3_4 : Nat) (hi : x3_4 ≤ (VM1 + VM4)) (hfu : (VM1 + VM4) - x3_4 < n) (H : Heap) (locs : List Loc) (hP : va_P (dC, dI) vwCl (w_M cI cJ cZ aM VM0 VM1 VM2 VM3 VM4 VM5 WM0 NM0 NM1 NM2 LM0 LM1 LM2 LM3 LM4 LM5 LM6 LM7 LM8 LM9 LM10 LM11 LM12 LM13 LM14 LM15 IM0 IM1 IM2 IM3) H) (hD : va_D A (w_M cI cJ cZ aM VM0 VM1 VM2 VM3 VM4 VM5 WM0 NM0 NM1 NM2 LM0 LM1 LM2 LM3 LM4 LM5 LM6 LM7 LM8 LM9 LM10 LM11 LM12 LM13 LM14 LM15 IM0 IM1 IM2 IM3)) (hS : va_S A s.heap H locs) (ls : Array Slot) (hl : lv_has ls 5 [(0, .ref (aM 0)), (1, .long x1_4), (3, .int (nI x3_4))]) (hR : f_Model_total_h4 VM1 VM4 VM2 NM0 NM1 NM2 LM13 IM0 LM14 k_4 n x1_4 x3_4 = r0), W p l e (headSpec u_Model_total ({ frames := 2, cells := 0, slots := 0, locals := 44 })).room s m ([.ref (aM 0)]).toArray below meth c H locs 0 0 (hh_Zl below (dC, dI) vwCl [(cI, .int), (cJ, .long), (cZ, .boolean)] A r0 (w_M cI cJ cZ aM VM0 VM1 VM2 VM3 VM4 VM5 WM0 NM0 NM1 NM2 LM0 LM1 LM2 LM3 LM4 LM5 LM6 LM7 LM8 LM9 LM10 LM11 LM12 LM13 LM14 LM15 IM0 IM1 IM2 IM3) ([.ref (aM 0)]).toArray s) (F0 m 4 ls []) := by
    intro n
    induction n with
    | zero =>
      intro x1_4 x3_4 hi hfu H locs hP hD hS ls hl hR
      exact absurd hfu (Nat.not_lt_zero _)
    | succ n ih_4 =>
      intro x1_4 x3_4 hi hfu H locs hP hD hS ls hl hR
      rw [f_Model_total_h4] at hR
      obtain ⟨rec_4, hrec_4, hR⟩ : ∃ r, r = _ ∧ f_Model_total_h4B VM1 VM4 VM2 NM0 NM1 NM2 LM13 IM0 LM14 k_4 r x1_4 x3_4 = r0 := ⟨_, rfl, hR⟩
      unfold f_Model_total_h4B at hR
      refine lv_iload_n hx hb d_Model_total_4 rfl (lv_at hl 2 rfl) ?_
      refine lv_aload_n hx hb d_Model_total_5 rfl (lv_at hl 0 rfl) ?_
      refine va_get (D := (dC, dI)) (ci := 5) (v := .int (nI VM1)) (C := R_Model) (T := T_Model) (N := 30) hx hb hG in_Model hown hK hP 0 rfl rfl 1 (by decide) (hG _ m_615) (fun _ h9 => h9) rfl d_Model_total_6 ?_
      refine lv_aload_n hx hb d_Model_total_9 rfl (lv_at hl 0 rfl) ?_
      refine va_get (D := (dC, dI)) (ci := 5) (v := .int (nI VM4)) (C := R_Model) (T := T_Model) (N := 30) hx hb hG in_Model hown hK hP 0 rfl rfl 18 (by decide) (hG _ m_632) (fun _ h9 => h9) rfl d_Model_total_10 ?_
      refine hw_iadd hx hb d_Model_total_13 ?_
      refine hw_icmp_ge (tgt := 69) hx hb d_Model_total_14 (by decide) (by omega) (by omega) (fun c14 => ?_) (fun c14 => ?_)
      · replace hR := (if_pos c14).symm.trans hR
        exact X_4 x1_4 x3_4 (by first | assumption | omega | exact hw_upb (by assumption) (by omega)) H locs hP hD hS ls (lv_sub hl [0, 1, 2] rfl) hR
      · replace hR := (if_neg c14).symm.trans hR
        refine lv_iconst (v := nI 0) hx hb d_Model_total_17 (by decide) ?_
        refine lv_istore (lv' := [(4, .int (nI 0)), (0, .ref (aM 0)), (1, .long x1_4), (3, .int (nI x3_4))]) hx hb d_Model_total_18 hl (by decide) rfl (fun ls hl => ?_)
        obtain ⟨k_20, hk_20, hR⟩ : ∃ k, (f_Model_total_x20 rec_4 x3_4) = k ∧ f_Model_total_h20 VM2 VM1 NM0 NM1 NM2 LM13 IM0 x3_4 LM14 k 9 x1_4 0 = r0 := ⟨_, rfl, hR⟩
        have X_20 : ∀ (x1_20 : Int64) (x4_20 : Nat) (hi : x4_20 ≤ VM2) (H : Heap) (locs : List Loc) (hP : va_P (dC, dI) vwCl (w_M cI cJ cZ aM VM0 VM1 VM2 VM3 VM4 VM5 WM0 NM0 NM1 NM2 LM0 LM1 LM2 LM3 LM4 LM5 LM6 LM7 LM8 LM9 LM10 LM11 LM12 LM13 LM14 LM15 IM0 IM1 IM2 IM3) H) (hD : va_D A (w_M cI cJ cZ aM VM0 VM1 VM2 VM3 VM4 VM5 WM0 NM0 NM1 NM2 LM0 LM1 LM2 LM3 LM4 LM5 LM6 LM7 LM8 LM9 LM10 LM11 LM12 LM13 LM14 LM15 IM0 IM1 IM2 IM3)) (hS : va_S A s.heap H locs) (ls : Array Slot) (hl : lv_has ls 5 [(0, .ref (aM 0)), (1, .long x1_20), (3, .int (nI x3_4)), (4, .int (nI x4_20))]) (hR : k_20 x1_20 x4_20 = r0), W p l e (headSpec u_Model_total ({ frames := 2, cells := 0, slots := 0, locals := 44 })).room s m ([.ref (aM 0)]).toArray below meth c H locs 0 0 (hh_Zl below (dC, dI) vwCl [(cI, .int), (cJ, .long), (cZ, .boolean)] A r0 (w_M cI cJ cZ aM VM0 VM1 VM2 VM3 VM4 VM5 WM0 NM0 NM1 NM2 LM0 LM1 LM2 LM3 LM4 LM5 LM6 LM7 LM8 LM9 LM10 LM11 LM12 LM13 LM14 LM15 IM0 IM1 IM2 IM3) ([.ref (aM 0)]).toArray s) (F0 m 63 ls []) := by
          intro x1_20 x4_20 hi H locs hP hD hS ls hl hR
          rw [← hk_20] at hR
          unfold f_Model_total_x20 at hR
          refine lv_iinc (v := nI (x3_4 + 1)) (lv' := [(3, .int (nI (x3_4 + 1))), (0, .ref (aM 0)), (1, .long x1_20), (4, .int (nI x4_20))]) hx hb d_Model_total_63 hl (k := 2) rfl (hw_inc _ 1) (by decide) rfl (fun ls hl => ?_)
          refine lv_goto (tgt := 4) hx hb d_Model_total_66 (by decide) ?_
          rw [hrec_4] at hR
          exact ih_4 x1_20 (x3_4 + 1) (by first | assumption | omega | exact hw_upb (by assumption) (by omega)) (by omega) H locs hP hD hS ls (lv_sub hl [1, 2, 0] rfl) hR
        have L_20 : ∀ (n : Nat) (x1_20 : Int64) (x4_20 : Nat) (hi : x4_20 ≤ VM2) (hfu : VM2 - x4_20 < n) (H : Heap) (locs : List Loc) (hP : va_P (dC, dI) vwCl (w_M cI cJ cZ aM VM0 VM1 VM2 VM3 VM4 VM5 WM0 NM0 NM1 NM2 LM0 LM1 LM2 LM3 LM4 LM5 LM6 LM7 LM8 LM9 LM10 LM11 LM12 LM13 LM14 LM15 IM0 IM1 IM2 IM3) H) (hD : va_D A (w_M cI cJ cZ aM VM0 VM1 VM2 VM3 VM4 VM5 WM0 NM0 NM1 NM2 LM0 LM1 LM2 LM3 LM4 LM5 LM6 LM7 LM8 LM9 LM10 LM11 LM12 LM13 LM14 LM15 IM0 IM1 IM2 IM3)) (hS : va_S A s.heap H locs) (ls : Array Slot) (hl : lv_has ls 5 [(0, .ref (aM 0)), (1, .long x1_20), (3, .int (nI x3_4)), (4, .int (nI x4_20))]) (hR : f_Model_total_h20 VM2 VM1 NM0 NM1 NM2 LM13 IM0 x3_4 LM14 k_20 n x1_20 x4_20 = r0), W p l e (headSpec u_Model_total ({ frames := 2, cells := 0, slots := 0, locals := 44 })).room s m ([.ref (aM 0)]).toArray below meth c H locs 0 0 (hh_Zl below (dC, dI) vwCl [(cI, .int), (cJ, .long), (cZ, .boolean)] A r0 (w_M cI cJ cZ aM VM0 VM1 VM2 VM3 VM4 VM5 WM0 NM0 NM1 NM2 LM0 LM1 LM2 LM3 LM4 LM5 LM6 LM7 LM8 LM9 LM10 LM11 LM12 LM13 LM14 LM15 IM0 IM1 IM2 IM3) ([.ref (aM 0)]).toArray s) (F0 m 20 ls []) := by
          intro n
          induction n with
          | zero =>
            intro x1_20 x4_20 hi hfu H locs hP hD hS ls hl hR
            exact absurd hfu (Nat.not_lt_zero _)
          | succ n ih_20 =>
            intro x1_20 x4_20 hi hfu H locs hP hD hS ls hl hR
            rw [f_Model_total_h20] at hR
            obtain ⟨rec_20, hrec_20, hR⟩ : ∃ r, r = _ ∧ f_Model_total_h20B VM2 VM1 NM0 NM1 NM2 LM13 IM0 x3_4 LM14 k_20 r x1_20 x4_20 = r0 := ⟨_, rfl, hR⟩
            unfold f_Model_total_h20B at hR
            refine lv_iload hx hb d_Model_total_20 (lv_at hl 3 rfl) ?_
            refine lv_aload_n hx hb d_Model_total_22 rfl (lv_at hl 0 rfl) ?_
            refine va_get (D := (dC, dI)) (ci := 5) (v := .int (nI VM2)) (C := R_Model) (T := T_Model) (N := 30) hx hb hG in_Model hown hK hP 0 rfl rfl 6 (by decide) (hG _ m_620) (fun _ h9 => h9) rfl d_Model_total_23 ?_
            refine hw_icmp_ge (tgt := 63) hx hb d_Model_total_26 (by decide) (by omega) (by omega) (fun c26 => ?_) (fun c26 => ?_)
            · replace hR := (if_pos c26).symm.trans hR
              exact X_20 x1_20 x4_20 (by first | assumption | omega | exact hw_upb (by assumption) (by omega)) H locs hP hD hS ls (lv_sub hl [0, 1, 2, 3] rfl) hR
            · replace hR := (if_neg c26).symm.trans hR
              refine lv_lload_n hx hb d_Model_total_29 rfl (lv_at hl 1 rfl) ?_
              refine lv_aload_n hx hb d_Model_total_30 rfl (lv_at hl 0 rfl) ?_
              refine lv_iload_n hx hb d_Model_total_31 rfl (lv_at hl 2 rfl) ?_
              refine lv_iload hx hb d_Model_total_32 (lv_at hl 3 rfl) ?_
              obtain ⟨y34, hy34, hR⟩ := hw_bind hR
              have hM := c_Model_goes l dC dI cI cJ cZ H.size aM VM0 VM1 VM2 VM3 VM4 VM5 WM0 NM0 NM1 NM2 LM0 LM1 LM2 LM3 LM4 LM5 LM6 LM7 LM8 LM9 LM10 LM11 LM12 LM13 LM14 LM15 IM0 IM1 IM2 IM3 x3_4 x4_20 (by first | assumption | omega) (by first | assumption | omega) (by first | assumption | omega) (by first | assumption | omega) (by first | assumption | omega) (by first | assumption | omega)
              rw [hy34] at hM
              refine hw_callVl (As := [.int (nI x3_4), .int (nI x4_20)]) (rest := [.long x1_20]) (wr := ([] : va_W)) ⟨hx, hb, hml, hown, hG⟩ hM (hw_cwV 2 hG m_798 m_800 mp_31 m_7 m_801 rfl rfl (by decide +kernel) ⟨Nat.le_of_ble_eq_true rfl, Nat.le_of_ble_eq_true rfl⟩) hK hP hD hS hA [0, 1, 2, 3, 4, 5, 6, 7, 8, 9, 10, 11, 12, 13, 14, 15, 16, 17, 18, 19, 20, 21, 22, 23] [] rfl rfl (by decide) (by decide) (by decide) (hw_recv hK hP 0 rfl rfl) rfl hl.1 rfl (Nat.le_of_ble_eq_true rfl) d_Model_total_34 ⟨Nat.le_of_ble_eq_true rfl, Nat.le_of_ble_eq_true rfl⟩ (fun H locs hP hD hS => ?_)
              have hP : va_P (dC, dI) vwCl (w_M cI cJ cZ aM VM0 VM1 VM2 VM3 VM4 VM5 WM0 NM0 NM1 NM2 LM0 LM1 LM2 LM3 LM4 LM5 LM6 LM7 LM8 LM9 LM10 LM11 LM12 LM13 LM14 LM15 IM0 IM1 IM2 IM3) H := hP
              have hD : va_D A (w_M cI cJ cZ aM VM0 VM1 VM2 VM3 VM4 VM5 WM0 NM0 NM1 NM2 LM0 LM1 LM2 LM3 LM4 LM5 LM6 LM7 LM8 LM9 LM10 LM11 LM12 LM13 LM14 LM15 IM0 IM1 IM2 IM3) := hD
              refine lv_aload_n hx hb d_Model_total_37 rfl (lv_at hl 0 rfl) ?_
              refine va_get (D := (dC, dI)) (ci := 5) (v := .ref (aM 21)) (C := R_Model) (T := T_Model) (N := 30) hx hb hG in_Model hown hK hP 0 rfl rfl 27 (by decide) (hG _ m_641) (fun _ h9 => h9) rfl d_Model_total_38 ?_
              refine lv_bipush (v := nI 34) hx hb d_Model_total_41 (by decide) ?_
              refine lv_iconst (v := nI 1) hx hb d_Model_total_43 (by decide) ?_
              refine lv_iload_n hx hb d_Model_total_44 rfl (lv_at hl 2 rfl) ?_
              refine hw_iadd hx hb d_Model_total_45 ?_
              refine hw_imul hx hb d_Model_total_46 ?_
              refine lv_bipush (v := nI 13) hx hb d_Model_total_47 (by decide) ?_
              refine hw_iadd hx hb d_Model_total_49 ?_
              refine lv_iload hx hb d_Model_total_50 (lv_at hl 3 rfl) ?_
              refine hw_iadd hx hb d_Model_total_52 ?_
              refine hw_lald (f := LM14) hx hb hK hP 21 1 rfl rfl (by decide) (by omega) d_Model_total_53 ?_
              refine lv_lmul hx hb d_Model_total_54 ?_
              refine lv_ladd hx hb d_Model_total_55 ?_
              refine lv_lstore_n (lv' := [(1, .long (x1_20 + (y34 * (LM14 (((34 * (1 + x3_4)) + 13) + x4_20))))), (0, .ref (aM 0)), (3, .int (nI x3_4)), (4, .int (nI x4_20))]) hx hb d_Model_total_56 rfl hl (by decide) rfl (fun ls hl => ?_)
              refine lv_iinc (v := nI (x4_20 + 1)) (lv' := [(4, .int (nI (x4_20 + 1))), (1, .long (x1_20 + (y34 * (LM14 (((34 * (1 + x3_4)) + 13) + x4_20))))), (0, .ref (aM 0)), (3, .int (nI x3_4))]) hx hb d_Model_total_57 hl (k := 3) rfl (hw_inc _ 1) (by decide) rfl (fun ls hl => ?_)
              refine lv_goto (tgt := 20) hx hb d_Model_total_60 (by decide) ?_
              rw [hrec_20] at hR
              exact ih_20 (x1_20 + (y34 * (LM14 (((34 * (1 + x3_4)) + 13) + x4_20)))) (x4_20 + 1) (by first | assumption | omega | exact hw_upb (by assumption) (by omega)) (by omega) H locs hP hD hS ls (lv_sub hl [2, 1, 3, 0] rfl) hR
        exact L_20 9 x1_4 0 (by first | assumption | omega | exact hw_upb (by assumption) (by omega)) (by omega) H locs hP hD hS ls (lv_sub hl [1, 2, 3, 0] rfl) hR
  exact L_4 13 0 0 (by first | assumption | omega | exact hw_upb (by assumption) (by omega)) (by omega) H locs hP hD hS ls (lv_sub hl [2, 1, 0] rfl) hR
def f_Model_wanted_h4B (VM2 : Nat) (LM2 : Nat → Int64) (k_4 : (Int64) → (Nat) → Int64) (rec_4 : (Int64) → (Nat) → Int64) (x1_4 : Int64) (x3_4 : Nat) : Int64 :=
  if VM2 ≤ x3_4 then (k_4 x1_4 x3_4) else (rec_4 (x1_4 + (LM2 x3_4)) (x3_4 + 1))
def f_Model_wanted_h4 (VM2 : Nat) (LM2 : Nat → Int64) (k_4 : (Int64) → (Nat) → Int64) : Nat → (Int64) → (Nat) → Int64
  | 0, x1_4, x3_4 => k_4 x1_4 x3_4
  | n + 1, x1_4, x3_4 => f_Model_wanted_h4B VM2 LM2 k_4 (fun x1_4 x3_4 => f_Model_wanted_h4 VM2 LM2 k_4 n x1_4 x3_4) x1_4 x3_4
def f_Model_wanted_x4  (x1_4 : Int64) (x3_4 : Nat) : Int64 :=
  (x1_4)
def f_Model_wanted (VM2 : Nat) (LM2 : Nat → Int64) : Int64 :=
  f_Model_wanted_h4 VM2 LM2 f_Model_wanted_x4 9 0 0
set_option maxHeartbeats 4000000 in
set_option maxRecDepth 100000 in
theorem c_Model_wanted (l : Launch) (dC : Nat → ClassId) (dI : Nat → Nat → Nat) (cI cJ cZ : ClassId) (sz : Nat) (aM : Nat → Nat) (VM0 : Nat) (VM1 : Nat) (VM2 : Nat) (VM3 : Nat) (VM4 : Nat) (VM5 : Nat) (WM0 : Int64) (NM0 : Nat → Nat) (NM1 : Nat → Nat) (NM2 : Nat → Nat) (LM0 : Nat → Int64) (LM1 : Nat → Int64) (LM2 : Nat → Int64) (LM3 : Nat → Int64) (LM4 : Nat → Int64) (LM5 : Nat → Int64) (LM6 : Nat → Int64) (LM7 : Nat → Int64) (LM8 : Nat → Int64) (LM9 : Nat → Int64) (LM10 : Nat → Int64) (LM11 : Nat → Int64) (LM12 : Nat → Int64) (LM13 : Nat → Int64) (LM14 : Nat → Int64) (LM15 : Nat → Int64) (IM0 : Nat → Int32) (IM1 : Nat → Int32) (IM2 : Nat → Int32) (IM3 : Nat → Int32) (m2 : VM2 ≤ 8) : hh_Cl l y_Model_wanted u_Model_wanted ({ frames := 0, cells := 0, slots := 0, locals := 0 }) (dC, dI) vwCl [(cI, .int), (cJ, .long), (cZ, .boolean)] (w_M cI cJ cZ aM VM0 VM1 VM2 VM3 VM4 VM5 WM0 NM0 NM1 NM2 LM0 LM1 LM2 LM3 LM4 LM5 LM6 LM7 LM8 LM9 LM10 LM11 LM12 LM13 LM14 LM15 IM0 IM1 IM2 IM3) sz [.ref (aM 0)] (f_Model_wanted VM2 LM2) (w_M cI cJ cZ aM VM0 VM1 VM2 VM3 VM4 VM5 WM0 NM0 NM1 NM2 LM0 LM1 LM2 LM3 LM4 LM5 LM6 LM7 LM8 LM9 LM10 LM11 LM12 LM13 LM14 LM15 IM0 IM1 IM2 IM3) 0 0 := by
  unfold hh_Cl
  refine Met.ofW (cc := b_Model_wanted) (maxL := 4) (ret := (some .long)) (by decide) rfl ?_
  intro p e s m args below meth c s₁ B hml hv
  obtain ⟨rfl, hsz, hP, hK, hD0⟩ := hv
  have hx := B.exec
  have hb := B.bytes
  have hr := B.returns
  have hts := atoms_spec (ws := u_Model_wanted) B.pre
  have hG : ∀ w ∈ wG, w.before ([.ref (aM 0)]).toArray s = true := fun w h => hts w (List.mem_cons_of_mem _ h)
  have hown : s.vm.findClass R_Model = some m.cls := findClass_of_methodNamed B.named
  have hlocks := B.notSynchronized
  subst hsz
  have hD := hD0.self (sz := s.heap.size)
  generalize hAe : va_A (w_M cI cJ cZ aM VM0 VM1 VM2 VM3 VM4 VM5 WM0 NM0 NM1 NM2 LM0 LM1 LM2 LM3 LM4 LM5 LM6 LM7 LM8 LM9 LM10 LM11 LM12 LM13 LM14 LM15 IM0 IM1 IM2 IM3) s.heap.size = A at hD ⊢
  have hA : ∀ q : Nat, s.heap.size ≤ q → A q := fun q h => by rw [← hAe]; exact Or.inr h
  have hS : va_S A s.heap s.heap [] := va_S.rf
  have hl := lv_entry ([.ref (aM 0)]) (n := 4) (Nat.le_of_ble_eq_true rfl)
  rw [lg_entry_eq]
  generalize (lg_sl ([.ref (aM 0)]) ++ List.replicate (4 - (lg_sl ([.ref (aM 0)])).length) Slot.unset).toArray = ls at hl ⊢
  have hl : lv_has ls 4 [(0, .ref (aM 0))] := hl
  generalize hR : f_Model_wanted VM2 LM2 = r0
  obtain ⟨H, locs, hHe, hle⟩ : ∃ (H : Heap) (locs : List Loc), s.heap = H ∧ [] = locs := ⟨_, _, rfl, rfl⟩
  have hP : va_P (dC, dI) vwCl (w_M cI cJ cZ aM VM0 VM1 VM2 VM3 VM4 VM5 WM0 NM0 NM1 NM2 LM0 LM1 LM2 LM3 LM4 LM5 LM6 LM7 LM8 LM9 LM10 LM11 LM12 LM13 LM14 LM15 IM0 IM1 IM2 IM3) H := by rw [← hHe]; exact hP
  have hS : va_S A s.heap H locs := by rw [← hHe, ← hle]; exact hS
  refine hw_start hHe hle ?_
  unfold f_Model_wanted at hR
  refine lv_lconst (v := 0) hx hb d_Model_wanted_0 (by decide) ?_
  refine lv_lstore_n (lv' := [(1, .long 0), (0, .ref (aM 0))]) hx hb d_Model_wanted_1 rfl hl (by decide) rfl (fun ls hl => ?_)
  refine lv_iconst (v := nI 0) hx hb d_Model_wanted_2 (by decide) ?_
  refine lv_istore_n (lv' := [(3, .int (nI 0)), (1, .long 0), (0, .ref (aM 0))]) hx hb d_Model_wanted_3 rfl hl (by decide) rfl (fun ls hl => ?_)
  obtain ⟨k_4, hk_4, hR⟩ : ∃ k, f_Model_wanted_x4 = k ∧ f_Model_wanted_h4 VM2 LM2 k 9 0 0 = r0 := ⟨_, rfl, hR⟩
  have X_4 : ∀ (x1_4 : Int64) (x3_4 : Nat) (hi : x3_4 ≤ VM2) (H : Heap) (locs : List Loc) (hP : va_P (dC, dI) vwCl (w_M cI cJ cZ aM VM0 VM1 VM2 VM3 VM4 VM5 WM0 NM0 NM1 NM2 LM0 LM1 LM2 LM3 LM4 LM5 LM6 LM7 LM8 LM9 LM10 LM11 LM12 LM13 LM14 LM15 IM0 IM1 IM2 IM3) H) (hD : va_D A (w_M cI cJ cZ aM VM0 VM1 VM2 VM3 VM4 VM5 WM0 NM0 NM1 NM2 LM0 LM1 LM2 LM3 LM4 LM5 LM6 LM7 LM8 LM9 LM10 LM11 LM12 LM13 LM14 LM15 IM0 IM1 IM2 IM3)) (hS : va_S A s.heap H locs) (ls : Array Slot) (hl : lv_has ls 4 [(0, .ref (aM 0)), (1, .long x1_4), (3, .int (nI x3_4))]) (hR : k_4 x1_4 x3_4 = r0), W p l e (headSpec u_Model_wanted ({ frames := 0, cells := 0, slots := 0, locals := 0 })).room s m ([.ref (aM 0)]).toArray below meth c H locs 0 0 (hh_Zl below (dC, dI) vwCl [(cI, .int), (cJ, .long), (cZ, .boolean)] A r0 (w_M cI cJ cZ aM VM0 VM1 VM2 VM3 VM4 VM5 WM0 NM0 NM1 NM2 LM0 LM1 LM2 LM3 LM4 LM5 LM6 LM7 LM8 LM9 LM10 LM11 LM12 LM13 LM14 LM15 IM0 IM1 IM2 IM3) ([.ref (aM 0)]).toArray s) (F0 m 27 ls []) := by
    intro x1_4 x3_4 hi H locs hP hD hS ls hl hR
    rw [← hk_4] at hR
    unfold f_Model_wanted_x4 at hR
    refine lv_lload_n hx hb d_Model_wanted_27 rfl (lv_at hl 1 rfl) ?_
    subst hR
    exact W.lret (v := x1_4) hx hb hr (fun t ht hW => ⟨⟨_, (), rfl, rfl, by rw [ht]; exact hP, va_K.moved hW.alike hK, hD⟩, hS.F ht⟩) hS.2.2 d_Model_wanted_28
  have L_4 : ∀ (n : Nat) (x1_4 : Int64) (x3_4 : Nat) (hi : x3_4 ≤ VM2) (hfu : VM2 - x3_4 < n) (H : Heap) (locs : List Loc) (hP : va_P (dC, dI) vwCl (w_M cI cJ cZ aM VM0 VM1 VM2 VM3 VM4 VM5 WM0 NM0 NM1 NM2 LM0 LM1 LM2 LM3 LM4 LM5 LM6 LM7 LM8 LM9 LM10 LM11 LM12 LM13 LM14 LM15 IM0 IM1 IM2 IM3) H) (hD : va_D A (w_M cI cJ cZ aM VM0 VM1 VM2 VM3 VM4 VM5 WM0 NM0 NM1 NM2 LM0 LM1 LM2 LM3 LM4 LM5 LM6 LM7 LM8 LM9 LM10 LM11 LM12 LM13 LM14 LM15 IM0 IM1 IM2 IM3)) (hS : va_S A s.heap H locs) (ls : Array Slot) (hl : lv_has ls 4 [(0, .ref (aM 0)), (1, .long x1_4), (3, .int (nI x3_4))]) (hR : f_Model_wanted_h4 VM2 LM2 k_4 n x1_4 x3_4 = r0), W p l e (headSpec u_Model_wanted ({ frames := 0, cells := 0, slots := 0, locals := 0 })).room s m ([.ref (aM 0)]).toArray below meth c H locs 0 0 (hh_Zl below (dC, dI) vwCl [(cI, .int), (cJ, .long), (cZ, .boolean)] A r0 (w_M cI cJ cZ aM VM0 VM1 VM2 VM3 VM4 VM5 WM0 NM0 NM1 NM2 LM0 LM1 LM2 LM3 LM4 LM5 LM6 LM7 LM8 LM9 LM10 LM11 LM12 LM13 LM14 LM15 IM0 IM1 IM2 IM3) ([.ref (aM 0)]).toArray s) (F0 m 4 ls []) := by
    intro n
    induction n with
    | zero =>
      intro x1_4 x3_4 hi hfu H locs hP hD hS ls hl hR
      exact absurd hfu (Nat.not_lt_zero _)
    | succ n ih_4 =>
      intro x1_4 x3_4 hi hfu H locs hP hD hS ls hl hR
      rw [f_Model_wanted_h4] at hR
      obtain ⟨rec_4, hrec_4, hR⟩ : ∃ r, r = _ ∧ f_Model_wanted_h4B VM2 LM2 k_4 r x1_4 x3_4 = r0 := ⟨_, rfl, hR⟩
      unfold f_Model_wanted_h4B at hR
      refine lv_iload_n hx hb d_Model_wanted_4 rfl (lv_at hl 2 rfl) ?_
      refine lv_aload_n hx hb d_Model_wanted_5 rfl (lv_at hl 0 rfl) ?_
      refine va_get (D := (dC, dI)) (ci := 5) (v := .int (nI VM2)) (C := R_Model) (T := T_Model) (N := 30) hx hb hG in_Model hown hK hP 0 rfl rfl 6 (by decide) (hG _ m_620) (fun _ h9 => h9) rfl d_Model_wanted_6 ?_
      refine hw_icmp_ge (tgt := 27) hx hb d_Model_wanted_9 (by decide) (by omega) (by omega) (fun c9 => ?_) (fun c9 => ?_)
      · replace hR := (if_pos c9).symm.trans hR
        exact X_4 x1_4 x3_4 (by first | assumption | omega | exact hw_upb (by assumption) (by omega)) H locs hP hD hS ls (lv_sub hl [0, 1, 2] rfl) hR
      · replace hR := (if_neg c9).symm.trans hR
        refine lv_lload_n hx hb d_Model_wanted_12 rfl (lv_at hl 1 rfl) ?_
        refine lv_aload_n hx hb d_Model_wanted_13 rfl (lv_at hl 0 rfl) ?_
        refine va_get (D := (dC, dI)) (ci := 5) (v := .ref (aM 5)) (C := R_Model) (T := T_Model) (N := 30) hx hb hG in_Model hown hK hP 0 rfl rfl 7 (by decide) (hG _ m_621) (fun _ h9 => h9) rfl d_Model_wanted_14 ?_
        refine lv_iload_n hx hb d_Model_wanted_17 rfl (lv_at hl 2 rfl) ?_
        refine hw_lald (f := LM2) hx hb hK hP 5 1 rfl rfl (by decide) (by omega) d_Model_wanted_18 ?_
        refine lv_ladd hx hb d_Model_wanted_19 ?_
        refine lv_lstore_n (lv' := [(1, .long (x1_4 + (LM2 x3_4))), (0, .ref (aM 0)), (3, .int (nI x3_4))]) hx hb d_Model_wanted_20 rfl hl (by decide) rfl (fun ls hl => ?_)
        refine lv_iinc (v := nI (x3_4 + 1)) (lv' := [(3, .int (nI (x3_4 + 1))), (1, .long (x1_4 + (LM2 x3_4))), (0, .ref (aM 0))]) hx hb d_Model_wanted_21 hl (k := 2) rfl (hw_inc _ 1) (by decide) rfl (fun ls hl => ?_)
        refine lv_goto (tgt := 4) hx hb d_Model_wanted_24 (by decide) ?_
        rw [hrec_4] at hR
        exact ih_4 (x1_4 + (LM2 x3_4)) (x3_4 + 1) (by first | assumption | omega | exact hw_upb (by assumption) (by omega)) (by omega) H locs hP hD hS ls (lv_sub hl [2, 1, 0] rfl) hR
  exact L_4 9 0 0 (by first | assumption | omega | exact hw_upb (by assumption) (by omega)) (by omega) H locs hP hD hS ls (lv_sub hl [2, 1, 0] rfl) hR
def f_Model_lay_h259B (LM11 : Nat → Int64) (k_259 : (Nat) → (Nat → Int64) → (Nat → Int64) × (Nat → Int64)) (rec_259 : (Nat) → (Nat → Int64) → (Nat → Int64) × (Nat → Int64)) (x6_259 : Nat) (LM13_259 : Nat → Int64) : (Nat → Int64) × (Nat → Int64) :=
  if 12 ≤ x6_259 then (k_259 x6_259 LM13_259) else (rec_259 (x6_259 + 1) (vp_updL LM13_259 ((34 * (21 + x6_259)) + 33) (LM11 x6_259)))
def f_Model_lay_h259 (LM11 : Nat → Int64) (k_259 : (Nat) → (Nat → Int64) → (Nat → Int64) × (Nat → Int64)) : Nat → (Nat) → (Nat → Int64) → (Nat → Int64) × (Nat → Int64)
  | 0, x6_259, LM13_259 => k_259 x6_259 LM13_259
  | n + 1, x6_259, LM13_259 => f_Model_lay_h259B LM11 k_259 (fun x6_259 LM13_259 => f_Model_lay_h259 LM11 k_259 n x6_259 LM13_259) x6_259 LM13_259
def f_Model_lay_x259 (LM14_36 : Nat → Int64) (x6_259 : Nat) (LM13_259 : Nat → Int64) : (Nat → Int64) × (Nat → Int64) :=
  (LM13_259, LM14_36)
def f_Model_lay_h198B (VM2 : Nat) (x2 : Int32) (NM2 : Nat → Nat) (LM2 : Nat → Int64) (x3 : Int64) (k_198 : (Nat) → (Nat → Int64) → (Nat → Int64) × (Nat → Int64)) (rec_198 : (Nat) → (Nat → Int64) → (Nat → Int64) × (Nat → Int64)) (x6_198 : Nat) (LM13_198 : Nat → Int64) : (Nat → Int64) × (Nat → Int64) :=
  if VM2 ≤ x6_198 then (k_198 x6_198 LM13_198) else (if (nI x6_198) = x2 then (rec_198 (x6_198 + 1) (vp_updL LM13_198 (((34 * (13 + x6_198)) + 21) + (NM2 x6_198)) ((LM2 x6_198) + x3))) else (rec_198 (x6_198 + 1) (vp_updL LM13_198 (((34 * (13 + x6_198)) + 21) + (NM2 x6_198)) ((LM2 x6_198) + 0))))
def f_Model_lay_h198 (VM2 : Nat) (x2 : Int32) (NM2 : Nat → Nat) (LM2 : Nat → Int64) (x3 : Int64) (k_198 : (Nat) → (Nat → Int64) → (Nat → Int64) × (Nat → Int64)) : Nat → (Nat) → (Nat → Int64) → (Nat → Int64) × (Nat → Int64)
  | 0, x6_198, LM13_198 => k_198 x6_198 LM13_198
  | n + 1, x6_198, LM13_198 => f_Model_lay_h198B VM2 x2 NM2 LM2 x3 k_198 (fun x6_198 LM13_198 => f_Model_lay_h198 VM2 x2 NM2 LM2 x3 k_198 n x6_198 LM13_198) x6_198 LM13_198
def f_Model_lay_x198 (LM11 : Nat → Int64) (LM14_36 : Nat → Int64) (x6_198 : Nat) (LM13_198 : Nat → Int64) : (Nat → Int64) × (Nat → Int64) :=
  f_Model_lay_h259 LM11 (f_Model_lay_x259 LM14_36) 13 0 LM13_198
def f_Model_lay_h95B (VM2 : Nat) (VM1 : Nat) (NM0 : Nat → Nat) (NM1 : Nat → Nat) (NM2 : Nat → Nat) (IM0 : Nat → Int32) (x6_36 : Nat) (VM3 : Nat) (LM1 : Nat → Int64) (LM3 : Nat → Int64) (LM6 : Nat → Int64) (LM7 : Nat → Int64) (LM8 : Nat → Int64) (LM9 : Nat → Int64) (LM10 : Nat → Int64) (IM1 : Nat → Int32) (x5 : Int32) (k_95 : (Nat) → (Nat → Int64) → (Nat → Int64) → (Nat → Int64) × (Nat → Int64)) (rec_95 : (Nat) → (Nat → Int64) → (Nat → Int64) → (Nat → Int64) × (Nat → Int64)) (x7_95 : Nat) (LM13_95 : Nat → Int64) (LM14_95 : Nat → Int64) : (Nat → Int64) × (Nat → Int64) :=
  if VM2 ≤ x7_95 then (k_95 x7_95 LM13_95 LM14_95) else (hh_bind (f_Model_serves VM1 NM0 NM1 NM2 IM0 x6_36 x7_95) (fun y109 => if y109 = 0 then (rec_95 (x7_95 + 1) LM13_95 LM14_95) else (hh_bind (f_Model_unit VM1 VM3 NM2 LM1 LM3 LM6 LM7 LM8 LM9 LM10 IM1 x6_36 x7_95 x5) (fun y153 => rec_95 (x7_95 + 1) (vp_updL LM13_95 (((34 * (1 + x6_36)) + 13) + x7_95) 1000000000000) (vp_updL (vp_updL LM14_95 (((34 * (1 + x6_36)) + 13) + x7_95) y153) (((34 * (13 + x7_95)) + 1) + x6_36) (-((vp_updL LM14_95 (((34 * (1 + x6_36)) + 13) + x7_95) y153) (((34 * (1 + x6_36)) + 13) + x7_95))))))))
def f_Model_lay_h95 (VM2 : Nat) (VM1 : Nat) (NM0 : Nat → Nat) (NM1 : Nat → Nat) (NM2 : Nat → Nat) (IM0 : Nat → Int32) (x6_36 : Nat) (VM3 : Nat) (LM1 : Nat → Int64) (LM3 : Nat → Int64) (LM6 : Nat → Int64) (LM7 : Nat → Int64) (LM8 : Nat → Int64) (LM9 : Nat → Int64) (LM10 : Nat → Int64) (IM1 : Nat → Int32) (x5 : Int32) (k_95 : (Nat) → (Nat → Int64) → (Nat → Int64) → (Nat → Int64) × (Nat → Int64)) : Nat → (Nat) → (Nat → Int64) → (Nat → Int64) → (Nat → Int64) × (Nat → Int64)
  | 0, x7_95, LM13_95, LM14_95 => k_95 x7_95 LM13_95 LM14_95
  | n + 1, x7_95, LM13_95, LM14_95 => f_Model_lay_h95B VM2 VM1 NM0 NM1 NM2 IM0 x6_36 VM3 LM1 LM3 LM6 LM7 LM8 LM9 LM10 IM1 x5 k_95 (fun x7_95 LM13_95 LM14_95 => f_Model_lay_h95 VM2 VM1 NM0 NM1 NM2 IM0 x6_36 VM3 LM1 LM3 LM6 LM7 LM8 LM9 LM10 IM1 x5 k_95 n x7_95 LM13_95 LM14_95) x7_95 LM13_95 LM14_95
def f_Model_lay_x95 (rec_36 : (Nat) → (Nat → Int64) → (Nat → Int64) → (Nat → Int64) × (Nat → Int64)) (x6_36 : Nat) (x7_95 : Nat) (LM13_95 : Nat → Int64) (LM14_95 : Nat → Int64) : (Nat → Int64) × (Nat → Int64) :=
  rec_36 (x6_36 + 1) LM13_95 LM14_95
def f_Model_lay_h36B (VM1 : Nat) (VM4 : Nat) (NM0 : Nat → Nat) (LM0 : Nat → Int64) (LM4 : Nat → Int64) (LM5 : Nat → Int64) (x1 : Int32) (VM2 : Nat) (NM1 : Nat → Nat) (NM2 : Nat → Nat) (IM0 : Nat → Int32) (VM3 : Nat) (LM1 : Nat → Int64) (LM3 : Nat → Int64) (LM6 : Nat → Int64) (LM7 : Nat → Int64) (LM8 : Nat → Int64) (LM9 : Nat → Int64) (LM10 : Nat → Int64) (IM1 : Nat → Int32) (x5 : Int32) (k_36 : (Nat) → (Nat → Int64) → (Nat → Int64) → (Nat → Int64) × (Nat → Int64)) (rec_36 : (Nat) → (Nat → Int64) → (Nat → Int64) → (Nat → Int64) × (Nat → Int64)) (x6_36 : Nat) (LM13_36 : Nat → Int64) (LM14_36 : Nat → Int64) : (Nat → Int64) × (Nat → Int64) :=
  if (VM1 + VM4) ≤ x6_36 then (k_36 x6_36 LM13_36 LM14_36) else (if x6_36 < VM1 then (hh_bind (f_Model_gives NM0 LM0 LM4 LM5 x6_36) (fun y76 => if (nI x6_36) = x1 then (f_Model_lay_h95 VM2 VM1 NM0 NM1 NM2 IM0 x6_36 VM3 LM1 LM3 LM6 LM7 LM8 LM9 LM10 IM1 x5 (f_Model_lay_x95 rec_36 x6_36) 9 0 (vp_updL LM13_36 (1 + x6_36) (y76 - 1)) LM14_36) else (f_Model_lay_h95 VM2 VM1 NM0 NM1 NM2 IM0 x6_36 VM3 LM1 LM3 LM6 LM7 LM8 LM9 LM10 IM1 x5 (f_Model_lay_x95 rec_36 x6_36) 9 0 (vp_updL LM13_36 (1 + x6_36) (y76 - 0)) LM14_36))) else (f_Model_lay_h95 VM2 VM1 NM0 NM1 NM2 IM0 x6_36 VM3 LM1 LM3 LM6 LM7 LM8 LM9 LM10 IM1 x5 (f_Model_lay_x95 rec_36 x6_36) 9 0 (vp_updL LM13_36 (1 + x6_36) 1000000000000) LM14_36))
def f_Model_lay_h36 (VM1 : Nat) (VM4 : Nat) (NM0 : Nat → Nat) (LM0 : Nat → Int64) (LM4 : Nat → Int64) (LM5 : Nat → Int64) (x1 : Int32) (VM2 : Nat) (NM1 : Nat → Nat) (NM2 : Nat → Nat) (IM0 : Nat → Int32) (VM3 : Nat) (LM1 : Nat → Int64) (LM3 : Nat → Int64) (LM6 : Nat → Int64) (LM7 : Nat → Int64) (LM8 : Nat → Int64) (LM9 : Nat → Int64) (LM10 : Nat → Int64) (IM1 : Nat → Int32) (x5 : Int32) (k_36 : (Nat) → (Nat → Int64) → (Nat → Int64) → (Nat → Int64) × (Nat → Int64)) : Nat → (Nat) → (Nat → Int64) → (Nat → Int64) → (Nat → Int64) × (Nat → Int64)
  | 0, x6_36, LM13_36, LM14_36 => k_36 x6_36 LM13_36 LM14_36
  | n + 1, x6_36, LM13_36, LM14_36 => f_Model_lay_h36B VM1 VM4 NM0 LM0 LM4 LM5 x1 VM2 NM1 NM2 IM0 VM3 LM1 LM3 LM6 LM7 LM8 LM9 LM10 IM1 x5 k_36 (fun x6_36 LM13_36 LM14_36 => f_Model_lay_h36 VM1 VM4 NM0 LM0 LM4 LM5 x1 VM2 NM1 NM2 IM0 VM3 LM1 LM3 LM6 LM7 LM8 LM9 LM10 IM1 x5 k_36 n x6_36 LM13_36 LM14_36) x6_36 LM13_36 LM14_36
def f_Model_lay_x36 (VM2 : Nat) (x2 : Int32) (NM2 : Nat → Nat) (LM2 : Nat → Int64) (x3 : Int64) (LM11 : Nat → Int64) (x6_36 : Nat) (LM13_36 : Nat → Int64) (LM14_36 : Nat → Int64) : (Nat → Int64) × (Nat → Int64) :=
  f_Model_lay_h198 VM2 x2 NM2 LM2 x3 (f_Model_lay_x198 LM11 LM14_36) 9 0 LM13_36
def f_Model_lay_h3B  (k_3 : (Nat) → (Nat → Int64) → (Nat → Int64) → (Nat → Int64) × (Nat → Int64)) (rec_3 : (Nat) → (Nat → Int64) → (Nat → Int64) → (Nat → Int64) × (Nat → Int64)) (x6_3 : Nat) (LM13_3 : Nat → Int64) (LM14_3 : Nat → Int64) : (Nat → Int64) × (Nat → Int64) :=
  if 1156 ≤ x6_3 then (k_3 x6_3 LM13_3 LM14_3) else (rec_3 (x6_3 + 1) (vp_updL LM13_3 x6_3 0) (vp_updL LM14_3 x6_3 0))
def f_Model_lay_h3  (k_3 : (Nat) → (Nat → Int64) → (Nat → Int64) → (Nat → Int64) × (Nat → Int64)) : Nat → (Nat) → (Nat → Int64) → (Nat → Int64) → (Nat → Int64) × (Nat → Int64)
  | 0, x6_3, LM13_3, LM14_3 => k_3 x6_3 LM13_3 LM14_3
  | n + 1, x6_3, LM13_3, LM14_3 => f_Model_lay_h3B  k_3 (fun x6_3 LM13_3 LM14_3 => f_Model_lay_h3  k_3 n x6_3 LM13_3 LM14_3) x6_3 LM13_3 LM14_3
def f_Model_lay_x3 (VM1 : Nat) (VM4 : Nat) (NM0 : Nat → Nat) (LM0 : Nat → Int64) (LM4 : Nat → Int64) (LM5 : Nat → Int64) (x1 : Int32) (VM2 : Nat) (NM1 : Nat → Nat) (NM2 : Nat → Nat) (IM0 : Nat → Int32) (VM3 : Nat) (LM1 : Nat → Int64) (LM3 : Nat → Int64) (LM6 : Nat → Int64) (LM7 : Nat → Int64) (LM8 : Nat → Int64) (LM9 : Nat → Int64) (LM10 : Nat → Int64) (IM1 : Nat → Int32) (x5 : Int32) (x2 : Int32) (LM2 : Nat → Int64) (x3 : Int64) (LM11 : Nat → Int64) (x6_3 : Nat) (LM13_3 : Nat → Int64) (LM14_3 : Nat → Int64) : (Nat → Int64) × (Nat → Int64) :=
  f_Model_lay_h36 VM1 VM4 NM0 LM0 LM4 LM5 x1 VM2 NM1 NM2 IM0 VM3 LM1 LM3 LM6 LM7 LM8 LM9 LM10 IM1 x5 (f_Model_lay_x36 VM2 x2 NM2 LM2 x3 LM11) 13 0 LM13_3 LM14_3
def f_Model_lay (VM1 : Nat) (VM2 : Nat) (VM3 : Nat) (VM4 : Nat) (NM0 : Nat → Nat) (NM1 : Nat → Nat) (NM2 : Nat → Nat) (LM0 : Nat → Int64) (LM1 : Nat → Int64) (LM2 : Nat → Int64) (LM3 : Nat → Int64) (LM4 : Nat → Int64) (LM5 : Nat → Int64) (LM6 : Nat → Int64) (LM7 : Nat → Int64) (LM8 : Nat → Int64) (LM9 : Nat → Int64) (LM10 : Nat → Int64) (LM11 : Nat → Int64) (LM13 : Nat → Int64) (LM14 : Nat → Int64) (IM0 : Nat → Int32) (IM1 : Nat → Int32) (x1 : Int32) (x2 : Int32) (x3 : Int64) (x5 : Int32) : (Nat → Int64) × (Nat → Int64) :=
  f_Model_lay_h3  (f_Model_lay_x3 VM1 VM4 NM0 LM0 LM4 LM5 x1 VM2 NM1 NM2 IM0 VM3 LM1 LM3 LM6 LM7 LM8 LM9 LM10 IM1 x5 x2 LM2 x3 LM11) 1157 0 LM13 LM14
set_option maxHeartbeats 4000000 in
set_option maxRecDepth 100000 in
theorem c_Model_lay (l : Launch) (dC : Nat → ClassId) (dI : Nat → Nat → Nat) (cI cJ cZ : ClassId) (sz : Nat) (aM : Nat → Nat) (VM0 : Nat) (VM1 : Nat) (VM2 : Nat) (VM3 : Nat) (VM4 : Nat) (VM5 : Nat) (WM0 : Int64) (NM0 : Nat → Nat) (NM1 : Nat → Nat) (NM2 : Nat → Nat) (LM0 : Nat → Int64) (LM1 : Nat → Int64) (LM2 : Nat → Int64) (LM3 : Nat → Int64) (LM4 : Nat → Int64) (LM5 : Nat → Int64) (LM6 : Nat → Int64) (LM7 : Nat → Int64) (LM8 : Nat → Int64) (LM9 : Nat → Int64) (LM10 : Nat → Int64) (LM11 : Nat → Int64) (LM12 : Nat → Int64) (LM13 : Nat → Int64) (LM14 : Nat → Int64) (LM15 : Nat → Int64) (IM0 : Nat → Int32) (IM1 : Nat → Int32) (IM2 : Nat → Int32) (IM3 : Nat → Int32) (x1 : Int32) (x2 : Int32) (x3 : Int64) (x5 : Int32) (m1 : VM1 ≤ 8) (m2 : VM2 ≤ 8) (m3 : VM3 ≤ 6) (m4 : VM4 ≤ 4) (mk4 : ∀ i, NM0 i < 4) (mcw : ∀ i, NM1 i < 12) (mfw : ∀ i, NM2 i < 12) (msb : ∀ i, i < 4 → ¬ LM5 i = 0) (m5 : VM5 ≤ 2) : hh_Cv l y_Model_lay u_Model_lay ({ frames := 2, cells := 0, slots := 0, locals := 57 }) (dC, dI) vwCl [(cI, .int), (cJ, .long), (cZ, .boolean)] (w_M cI cJ cZ aM VM0 VM1 VM2 VM3 VM4 VM5 WM0 NM0 NM1 NM2 LM0 LM1 LM2 LM3 LM4 LM5 LM6 LM7 LM8 LM9 LM10 LM11 LM12 LM13 LM14 LM15 IM0 IM1 IM2 IM3) sz [.ref (aM 0), .int x1, .int x2, .long x3, .int x5] (w_M cI cJ cZ aM VM0 VM1 VM2 VM3 VM4 VM5 WM0 NM0 NM1 NM2 LM0 LM1 LM2 LM3 LM4 LM5 LM6 LM7 LM8 LM9 LM10 LM11 LM12 ((f_Model_lay VM1 VM2 VM3 VM4 NM0 NM1 NM2 LM0 LM1 LM2 LM3 LM4 LM5 LM6 LM7 LM8 LM9 LM10 LM11 LM13 LM14 IM0 IM1 x1 x2 x3 x5).1) ((f_Model_lay VM1 VM2 VM3 VM4 NM0 NM1 NM2 LM0 LM1 LM2 LM3 LM4 LM5 LM6 LM7 LM8 LM9 LM10 LM11 LM13 LM14 IM0 IM1 x1 x2 x3 x5).2) LM15 IM0 IM1 IM2 IM3) 0 0 := by
  unfold hh_Cv
  refine Met.ofW (cc := b_Model_lay) (maxL := 9) (ret := none) (by decide) rfl ?_
  intro p e s m args below meth c s₁ B hml hv
  obtain ⟨rfl, hsz, hP, hK, hD0⟩ := hv
  have hx := B.exec
  have hb := B.bytes
  have hr := B.returns
  have hts := atoms_spec (ws := u_Model_lay) B.pre
  have hG : ∀ w ∈ wG, w.before ([.ref (aM 0), .int x1, .int x2, .long x3, .int x5]).toArray s = true := fun w h => hts w (List.mem_cons_of_mem _ h)
  have hown : s.vm.findClass R_Model = some m.cls := findClass_of_methodNamed B.named
  have hlocks := B.notSynchronized
  subst hsz
  have hD := hD0.self (sz := s.heap.size)
  generalize hAe : va_A (w_M cI cJ cZ aM VM0 VM1 VM2 VM3 VM4 VM5 WM0 NM0 NM1 NM2 LM0 LM1 LM2 LM3 LM4 LM5 LM6 LM7 LM8 LM9 LM10 LM11 LM12 LM13 LM14 LM15 IM0 IM1 IM2 IM3) s.heap.size = A at hD ⊢
  have hA : ∀ q : Nat, s.heap.size ≤ q → A q := fun q h => by rw [← hAe]; exact Or.inr h
  have hS : va_S A s.heap s.heap [] := va_S.rf
  have hl := lv_entry ([.ref (aM 0), .int x1, .int x2, .long x3, .int x5]) (n := 9) (Nat.le_of_ble_eq_true rfl)
  rw [lg_entry_eq]
  generalize (lg_sl ([.ref (aM 0), .int x1, .int x2, .long x3, .int x5]) ++ List.replicate (9 - (lg_sl ([.ref (aM 0), .int x1, .int x2, .long x3, .int x5])).length) Slot.unset).toArray = ls at hl ⊢
  have hl : lv_has ls 9 [(0, .ref (aM 0)), (1, .int x1), (2, .int x2), (3, .long x3), (5, .int x5)] := hl
  generalize hR : f_Model_lay VM1 VM2 VM3 VM4 NM0 NM1 NM2 LM0 LM1 LM2 LM3 LM4 LM5 LM6 LM7 LM8 LM9 LM10 LM11 LM13 LM14 IM0 IM1 x1 x2 x3 x5 = r0
  obtain ⟨H, locs, hHe, hle⟩ : ∃ (H : Heap) (locs : List Loc), s.heap = H ∧ [] = locs := ⟨_, _, rfl, rfl⟩
  have hP : va_P (dC, dI) vwCl (w_M cI cJ cZ aM VM0 VM1 VM2 VM3 VM4 VM5 WM0 NM0 NM1 NM2 LM0 LM1 LM2 LM3 LM4 LM5 LM6 LM7 LM8 LM9 LM10 LM11 LM12 LM13 LM14 LM15 IM0 IM1 IM2 IM3) H := by rw [← hHe]; exact hP
  have hS : va_S A s.heap H locs := by rw [← hHe, ← hle]; exact hS
  refine hw_start hHe hle ?_
  unfold f_Model_lay at hR
  refine lv_iconst (v := nI 0) hx hb d_Model_lay_0 (by decide) ?_
  refine lv_istore (lv' := [(6, .int (nI 0)), (0, .ref (aM 0)), (1, .int x1), (2, .int x2), (3, .long x3), (5, .int x5)]) hx hb d_Model_lay_1 hl (by decide) rfl (fun ls hl => ?_)
  obtain ⟨k_3, hk_3, hR⟩ : ∃ k, (f_Model_lay_x3 VM1 VM4 NM0 LM0 LM4 LM5 x1 VM2 NM1 NM2 IM0 VM3 LM1 LM3 LM6 LM7 LM8 LM9 LM10 IM1 x5 x2 LM2 x3 LM11) = k ∧ f_Model_lay_h3  k 1157 0 LM13 LM14 = r0 := ⟨_, rfl, hR⟩
  have X_3 : ∀ (x6_3 : Nat) (LM13_3 : Nat → Int64) (LM14_3 : Nat → Int64) (hi : x6_3 ≤ 1156) (H : Heap) (locs : List Loc) (hP : va_P (dC, dI) vwCl (w_M cI cJ cZ aM VM0 VM1 VM2 VM3 VM4 VM5 WM0 NM0 NM1 NM2 LM0 LM1 LM2 LM3 LM4 LM5 LM6 LM7 LM8 LM9 LM10 LM11 LM12 LM13_3 LM14_3 LM15 IM0 IM1 IM2 IM3) H) (hD : va_D A (w_M cI cJ cZ aM VM0 VM1 VM2 VM3 VM4 VM5 WM0 NM0 NM1 NM2 LM0 LM1 LM2 LM3 LM4 LM5 LM6 LM7 LM8 LM9 LM10 LM11 LM12 LM13_3 LM14_3 LM15 IM0 IM1 IM2 IM3)) (hS : va_S A s.heap H locs) (ls : Array Slot) (hl : lv_has ls 9 [(0, .ref (aM 0)), (1, .int x1), (2, .int x2), (3, .long x3), (5, .int x5), (6, .int (nI x6_3))]) (hR : k_3 x6_3 LM13_3 LM14_3 = r0), W p l e (headSpec u_Model_lay ({ frames := 2, cells := 0, slots := 0, locals := 57 })).room s m ([.ref (aM 0), .int x1, .int x2, .long x3, .int x5]).toArray below meth c H locs 0 0 (hh_Zv below (dC, dI) vwCl [(cI, .int), (cJ, .long), (cZ, .boolean)] A (w_M cI cJ cZ aM VM0 VM1 VM2 VM3 VM4 VM5 WM0 NM0 NM1 NM2 LM0 LM1 LM2 LM3 LM4 LM5 LM6 LM7 LM8 LM9 LM10 LM11 LM12 r0.1 r0.2 LM15 IM0 IM1 IM2 IM3) ([.ref (aM 0), .int x1, .int x2, .long x3, .int x5]).toArray s) (F0 m 33 ls []) := by
    intro x6_3 LM13_3 LM14_3 hi H locs hP hD hS ls hl hR
    rw [← hk_3] at hR
    unfold f_Model_lay_x3 at hR
    refine lv_iconst (v := nI 0) hx hb d_Model_lay_33 (by decide) ?_
    refine lv_istore (lv' := [(6, .int (nI 0)), (0, .ref (aM 0)), (1, .int x1), (2, .int x2), (3, .long x3), (5, .int x5)]) hx hb d_Model_lay_34 hl (by decide) rfl (fun ls hl => ?_)
    obtain ⟨k_36, hk_36, hR⟩ : ∃ k, (f_Model_lay_x36 VM2 x2 NM2 LM2 x3 LM11) = k ∧ f_Model_lay_h36 VM1 VM4 NM0 LM0 LM4 LM5 x1 VM2 NM1 NM2 IM0 VM3 LM1 LM3 LM6 LM7 LM8 LM9 LM10 IM1 x5 k 13 0 LM13_3 LM14_3 = r0 := ⟨_, rfl, hR⟩
    have X_36 : ∀ (x6_36 : Nat) (LM13_36 : Nat → Int64) (LM14_36 : Nat → Int64) (hi : x6_36 ≤ (VM1 + VM4)) (H : Heap) (locs : List Loc) (hP : va_P (dC, dI) vwCl (w_M cI cJ cZ aM VM0 VM1 VM2 VM3 VM4 VM5 WM0 NM0 NM1 NM2 LM0 LM1 LM2 LM3 LM4 LM5 LM6 LM7 LM8 LM9 LM10 LM11 LM12 LM13_36 LM14_36 LM15 IM0 IM1 IM2 IM3) H) (hD : va_D A (w_M cI cJ cZ aM VM0 VM1 VM2 VM3 VM4 VM5 WM0 NM0 NM1 NM2 LM0 LM1 LM2 LM3 LM4 LM5 LM6 LM7 LM8 LM9 LM10 LM11 LM12 LM13_36 LM14_36 LM15 IM0 IM1 IM2 IM3)) (hS : va_S A s.heap H locs) (ls : Array Slot) (hl : lv_has ls 9 [(0, .ref (aM 0)), (1, .int x1), (2, .int x2), (3, .long x3), (5, .int x5), (6, .int (nI x6_36))]) (hR : k_36 x6_36 LM13_36 LM14_36 = r0), W p l e (headSpec u_Model_lay ({ frames := 2, cells := 0, slots := 0, locals := 57 })).room s m ([.ref (aM 0), .int x1, .int x2, .long x3, .int x5]).toArray below meth c H locs 0 0 (hh_Zv below (dC, dI) vwCl [(cI, .int), (cJ, .long), (cZ, .boolean)] A (w_M cI cJ cZ aM VM0 VM1 VM2 VM3 VM4 VM5 WM0 NM0 NM1 NM2 LM0 LM1 LM2 LM3 LM4 LM5 LM6 LM7 LM8 LM9 LM10 LM11 LM12 r0.1 r0.2 LM15 IM0 IM1 IM2 IM3) ([.ref (aM 0), .int x1, .int x2, .long x3, .int x5]).toArray s) (F0 m 195 ls []) := by
      intro x6_36 LM13_36 LM14_36 hi H locs hP hD hS ls hl hR
      rw [← hk_36] at hR
      unfold f_Model_lay_x36 at hR
      refine lv_iconst (v := nI 0) hx hb d_Model_lay_195 (by decide) ?_
      refine lv_istore (lv' := [(6, .int (nI 0)), (0, .ref (aM 0)), (1, .int x1), (2, .int x2), (3, .long x3), (5, .int x5)]) hx hb d_Model_lay_196 hl (by decide) rfl (fun ls hl => ?_)
      obtain ⟨k_198, hk_198, hR⟩ : ∃ k, (f_Model_lay_x198 LM11 LM14_36) = k ∧ f_Model_lay_h198 VM2 x2 NM2 LM2 x3 k 9 0 LM13_36 = r0 := ⟨_, rfl, hR⟩
      have X_198 : ∀ (x6_198 : Nat) (LM13_198 : Nat → Int64) (hi : x6_198 ≤ VM2) (H : Heap) (locs : List Loc) (hP : va_P (dC, dI) vwCl (w_M cI cJ cZ aM VM0 VM1 VM2 VM3 VM4 VM5 WM0 NM0 NM1 NM2 LM0 LM1 LM2 LM3 LM4 LM5 LM6 LM7 LM8 LM9 LM10 LM11 LM12 LM13_198 LM14_36 LM15 IM0 IM1 IM2 IM3) H) (hD : va_D A (w_M cI cJ cZ aM VM0 VM1 VM2 VM3 VM4 VM5 WM0 NM0 NM1 NM2 LM0 LM1 LM2 LM3 LM4 LM5 LM6 LM7 LM8 LM9 LM10 LM11 LM12 LM13_198 LM14_36 LM15 IM0 IM1 IM2 IM3)) (hS : va_S A s.heap H locs) (ls : Array Slot) (hl : lv_has ls 9 [(0, .ref (aM 0)), (1, .int x1), (2, .int x2), (3, .long x3), (5, .int x5), (6, .int (nI x6_198))]) (hR : k_198 x6_198 LM13_198 = r0), W p l e (headSpec u_Model_lay ({ frames := 2, cells := 0, slots := 0, locals := 57 })).room s m ([.ref (aM 0), .int x1, .int x2, .long x3, .int x5]).toArray below meth c H locs 0 0 (hh_Zv below (dC, dI) vwCl [(cI, .int), (cJ, .long), (cZ, .boolean)] A (w_M cI cJ cZ aM VM0 VM1 VM2 VM3 VM4 VM5 WM0 NM0 NM1 NM2 LM0 LM1 LM2 LM3 LM4 LM5 LM6 LM7 LM8 LM9 LM10 LM11 LM12 r0.1 r0.2 LM15 IM0 IM1 IM2 IM3) ([.ref (aM 0), .int x1, .int x2, .long x3, .int x5]).toArray s) (F0 m 256 ls []) := by
        intro x6_198 LM13_198 hi H locs hP hD hS ls hl hR
        rw [← hk_198] at hR
        unfold f_Model_lay_x198 at hR
        refine lv_iconst (v := nI 0) hx hb d_Model_lay_256 (by decide) ?_
        refine lv_istore (lv' := [(6, .int (nI 0)), (0, .ref (aM 0)), (1, .int x1), (2, .int x2), (3, .long x3), (5, .int x5)]) hx hb d_Model_lay_257 hl (by decide) rfl (fun ls hl => ?_)
        obtain ⟨k_259, hk_259, hR⟩ : ∃ k, (f_Model_lay_x259 LM14_36) = k ∧ f_Model_lay_h259 LM11 k 13 0 LM13_198 = r0 := ⟨_, rfl, hR⟩
        have X_259 : ∀ (x6_259 : Nat) (LM13_259 : Nat → Int64) (hi : x6_259 ≤ 12) (H : Heap) (locs : List Loc) (hP : va_P (dC, dI) vwCl (w_M cI cJ cZ aM VM0 VM1 VM2 VM3 VM4 VM5 WM0 NM0 NM1 NM2 LM0 LM1 LM2 LM3 LM4 LM5 LM6 LM7 LM8 LM9 LM10 LM11 LM12 LM13_259 LM14_36 LM15 IM0 IM1 IM2 IM3) H) (hD : va_D A (w_M cI cJ cZ aM VM0 VM1 VM2 VM3 VM4 VM5 WM0 NM0 NM1 NM2 LM0 LM1 LM2 LM3 LM4 LM5 LM6 LM7 LM8 LM9 LM10 LM11 LM12 LM13_259 LM14_36 LM15 IM0 IM1 IM2 IM3)) (hS : va_S A s.heap H locs) (ls : Array Slot) (hl : lv_has ls 9 [(0, .ref (aM 0)), (1, .int x1), (2, .int x2), (3, .long x3), (5, .int x5), (6, .int (nI x6_259))]) (hR : k_259 x6_259 LM13_259 = r0), W p l e (headSpec u_Model_lay ({ frames := 2, cells := 0, slots := 0, locals := 57 })).room s m ([.ref (aM 0), .int x1, .int x2, .long x3, .int x5]).toArray below meth c H locs 0 0 (hh_Zv below (dC, dI) vwCl [(cI, .int), (cJ, .long), (cZ, .boolean)] A (w_M cI cJ cZ aM VM0 VM1 VM2 VM3 VM4 VM5 WM0 NM0 NM1 NM2 LM0 LM1 LM2 LM3 LM4 LM5 LM6 LM7 LM8 LM9 LM10 LM11 LM12 r0.1 r0.2 LM15 IM0 IM1 IM2 IM3) ([.ref (aM 0), .int x1, .int x2, .long x3, .int x5]).toArray s) (F0 m 295 ls []) := by
          intro x6_259 LM13_259 hi H locs hP hD hS ls hl hR
          rw [← hk_259] at hR
          unfold f_Model_lay_x259 at hR
          subst hR
          exact W.vret hx hb hr (fun t ht hW => ⟨⟨(), rfl, trivial, by rw [ht]; exact hP, va_K.moved hW.alike hK, hD⟩, hS.F ht⟩) hS.2.2 d_Model_lay_295
        have L_259 : ∀ (n : Nat) (x6_259 : Nat) (LM13_259 : Nat → Int64) (hi : x6_259 ≤ 12) (hfu : 12 - x6_259 < n) (H : Heap) (locs : List Loc) (hP : va_P (dC, dI) vwCl (w_M cI cJ cZ aM VM0 VM1 VM2 VM3 VM4 VM5 WM0 NM0 NM1 NM2 LM0 LM1 LM2 LM3 LM4 LM5 LM6 LM7 LM8 LM9 LM10 LM11 LM12 LM13_259 LM14_36 LM15 IM0 IM1 IM2 IM3) H) (hD : va_D A (w_M cI cJ cZ aM VM0 VM1 VM2 VM3 VM4 VM5 WM0 NM0 NM1 NM2 LM0 LM1 LM2 LM3 LM4 LM5 LM6 LM7 LM8 LM9 LM10 LM11 LM12 LM13_259 LM14_36 LM15 IM0 IM1 IM2 IM3)) (hS : va_S A s.heap H locs) (ls : Array Slot) (hl : lv_has ls 9 [(0, .ref (aM 0)), (1, .int x1), (2, .int x2), (3, .long x3), (5, .int x5), (6, .int (nI x6_259))]) (hR : f_Model_lay_h259 LM11 k_259 n x6_259 LM13_259 = r0), W p l e (headSpec u_Model_lay ({ frames := 2, cells := 0, slots := 0, locals := 57 })).room s m ([.ref (aM 0), .int x1, .int x2, .long x3, .int x5]).toArray below meth c H locs 0 0 (hh_Zv below (dC, dI) vwCl [(cI, .int), (cJ, .long), (cZ, .boolean)] A (w_M cI cJ cZ aM VM0 VM1 VM2 VM3 VM4 VM5 WM0 NM0 NM1 NM2 LM0 LM1 LM2 LM3 LM4 LM5 LM6 LM7 LM8 LM9 LM10 LM11 LM12 r0.1 r0.2 LM15 IM0 IM1 IM2 IM3) ([.ref (aM 0), .int x1, .int x2, .long x3, .int x5]).toArray s) (F0 m 259 ls []) := by
          intro n
          induction n with
          | zero =>
            intro x6_259 LM13_259 hi hfu H locs hP hD hS ls hl hR
            exact absurd hfu (Nat.not_lt_zero _)
          | succ n ih_259 =>
            intro x6_259 LM13_259 hi hfu H locs hP hD hS ls hl hR
            rw [f_Model_lay_h259] at hR
            obtain ⟨rec_259, hrec_259, hR⟩ : ∃ r, r = _ ∧ f_Model_lay_h259B LM11 k_259 r x6_259 LM13_259 = r0 := ⟨_, rfl, hR⟩
            unfold f_Model_lay_h259B at hR
            refine lv_iload hx hb d_Model_lay_259 (lv_at hl 5 rfl) ?_
            refine lv_bipush (v := nI 12) hx hb d_Model_lay_261 (by decide) ?_
            refine hw_icmp_ge (tgt := 295) hx hb d_Model_lay_263 (by decide) (by omega) (by omega) (fun c263 => ?_) (fun c263 => ?_)
            · replace hR := (if_pos c263).symm.trans hR
              exact X_259 x6_259 LM13_259 (by first | assumption | omega | exact hw_upb (by assumption) (by omega)) H locs hP hD hS ls (lv_sub hl [0, 1, 2, 3, 4, 5] rfl) hR
            · replace hR := (if_neg c263).symm.trans hR
              refine lv_aload_n hx hb d_Model_lay_266 rfl (lv_at hl 0 rfl) ?_
              refine va_get (D := (dC, dI)) (ci := 5) (v := .ref (aM 20)) (C := R_Model) (T := T_Model) (N := 30) hx hb hG in_Model hown hK hP 0 rfl rfl 26 (by decide) (hG _ m_640) (fun _ h9 => h9) rfl d_Model_lay_267 ?_
              refine lv_bipush (v := nI 34) hx hb d_Model_lay_270 (by decide) ?_
              refine lv_bipush (v := nI 21) hx hb d_Model_lay_272 (by decide) ?_
              refine lv_iload hx hb d_Model_lay_274 (lv_at hl 5 rfl) ?_
              refine hw_iadd hx hb d_Model_lay_276 ?_
              refine hw_imul hx hb d_Model_lay_277 ?_
              refine lv_bipush (v := nI 33) hx hb d_Model_lay_278 (by decide) ?_
              refine hw_iadd hx hb d_Model_lay_280 ?_
              refine lv_aload_n hx hb d_Model_lay_281 rfl (lv_at hl 0 rfl) ?_
              refine va_get (D := (dC, dI)) (ci := 5) (v := .ref (aM 17)) (C := R_Model) (T := T_Model) (N := 30) hx hb hG in_Model hown hK hP 0 rfl rfl 21 (by decide) (hG _ m_635) (fun _ h9 => h9) rfl d_Model_lay_282 ?_
              refine lv_iload hx hb d_Model_lay_285 (lv_at hl 5 rfl) ?_
              refine hw_lald (f := LM11) hx hb hK hP 17 1 rfl rfl (by decide) (by omega) d_Model_lay_287 ?_
              refine hw_last (f := LM13_259) hx hb hK hP hD hS 20 1 rfl rfl (by decide) (by omega) d_Model_lay_288 (fun H locs hP hD hS => ?_)
              have hP : va_P (dC, dI) vwCl (w_M cI cJ cZ aM VM0 VM1 VM2 VM3 VM4 VM5 WM0 NM0 NM1 NM2 LM0 LM1 LM2 LM3 LM4 LM5 LM6 LM7 LM8 LM9 LM10 LM11 LM12 (vp_updL LM13_259 ((34 * (21 + x6_259)) + 33) (LM11 x6_259)) LM14_36 LM15 IM0 IM1 IM2 IM3) H := hP
              have hD : va_D A (w_M cI cJ cZ aM VM0 VM1 VM2 VM3 VM4 VM5 WM0 NM0 NM1 NM2 LM0 LM1 LM2 LM3 LM4 LM5 LM6 LM7 LM8 LM9 LM10 LM11 LM12 (vp_updL LM13_259 ((34 * (21 + x6_259)) + 33) (LM11 x6_259)) LM14_36 LM15 IM0 IM1 IM2 IM3) := hD
              refine lv_iinc (v := nI (x6_259 + 1)) (lv' := [(6, .int (nI (x6_259 + 1))), (0, .ref (aM 0)), (1, .int x1), (2, .int x2), (3, .long x3), (5, .int x5)]) hx hb d_Model_lay_289 hl (k := 5) rfl (hw_inc _ 1) (by decide) rfl (fun ls hl => ?_)
              refine lv_goto (tgt := 259) hx hb d_Model_lay_292 (by decide) ?_
              rw [hrec_259] at hR
              exact ih_259 (x6_259 + 1) (vp_updL LM13_259 ((34 * (21 + x6_259)) + 33) (LM11 x6_259)) (by first | assumption | omega | exact hw_upb (by assumption) (by omega)) (by omega) H locs hP hD hS ls (lv_sub hl [1, 2, 3, 4, 5, 0] rfl) hR
        exact L_259 13 0 LM13_198 (by first | assumption | omega | exact hw_upb (by assumption) (by omega)) (by omega) H locs hP hD hS ls (lv_sub hl [1, 2, 3, 4, 5, 0] rfl) hR
      have L_198 : ∀ (n : Nat) (x6_198 : Nat) (LM13_198 : Nat → Int64) (hi : x6_198 ≤ VM2) (hfu : VM2 - x6_198 < n) (H : Heap) (locs : List Loc) (hP : va_P (dC, dI) vwCl (w_M cI cJ cZ aM VM0 VM1 VM2 VM3 VM4 VM5 WM0 NM0 NM1 NM2 LM0 LM1 LM2 LM3 LM4 LM5 LM6 LM7 LM8 LM9 LM10 LM11 LM12 LM13_198 LM14_36 LM15 IM0 IM1 IM2 IM3) H) (hD : va_D A (w_M cI cJ cZ aM VM0 VM1 VM2 VM3 VM4 VM5 WM0 NM0 NM1 NM2 LM0 LM1 LM2 LM3 LM4 LM5 LM6 LM7 LM8 LM9 LM10 LM11 LM12 LM13_198 LM14_36 LM15 IM0 IM1 IM2 IM3)) (hS : va_S A s.heap H locs) (ls : Array Slot) (hl : lv_has ls 9 [(0, .ref (aM 0)), (1, .int x1), (2, .int x2), (3, .long x3), (5, .int x5), (6, .int (nI x6_198))]) (hR : f_Model_lay_h198 VM2 x2 NM2 LM2 x3 k_198 n x6_198 LM13_198 = r0), W p l e (headSpec u_Model_lay ({ frames := 2, cells := 0, slots := 0, locals := 57 })).room s m ([.ref (aM 0), .int x1, .int x2, .long x3, .int x5]).toArray below meth c H locs 0 0 (hh_Zv below (dC, dI) vwCl [(cI, .int), (cJ, .long), (cZ, .boolean)] A (w_M cI cJ cZ aM VM0 VM1 VM2 VM3 VM4 VM5 WM0 NM0 NM1 NM2 LM0 LM1 LM2 LM3 LM4 LM5 LM6 LM7 LM8 LM9 LM10 LM11 LM12 r0.1 r0.2 LM15 IM0 IM1 IM2 IM3) ([.ref (aM 0), .int x1, .int x2, .long x3, .int x5]).toArray s) (F0 m 198 ls []) := by
        intro n
        induction n with
        | zero =>
          intro x6_198 LM13_198 hi hfu H locs hP hD hS ls hl hR
          exact absurd hfu (Nat.not_lt_zero _)
        | succ n ih_198 =>
          intro x6_198 LM13_198 hi hfu H locs hP hD hS ls hl hR
          rw [f_Model_lay_h198] at hR
          obtain ⟨rec_198, hrec_198, hR⟩ : ∃ r, r = _ ∧ f_Model_lay_h198B VM2 x2 NM2 LM2 x3 k_198 r x6_198 LM13_198 = r0 := ⟨_, rfl, hR⟩
          unfold f_Model_lay_h198B at hR
          refine lv_iload hx hb d_Model_lay_198 (lv_at hl 5 rfl) ?_
          refine lv_aload_n hx hb d_Model_lay_200 rfl (lv_at hl 0 rfl) ?_
          refine va_get (D := (dC, dI)) (ci := 5) (v := .int (nI VM2)) (C := R_Model) (T := T_Model) (N := 30) hx hb hG in_Model hown hK hP 0 rfl rfl 6 (by decide) (hG _ m_620) (fun _ h9 => h9) rfl d_Model_lay_201 ?_
          refine hw_icmp_ge (tgt := 256) hx hb d_Model_lay_204 (by decide) (by omega) (by omega) (fun c204 => ?_) (fun c204 => ?_)
          · replace hR := (if_pos c204).symm.trans hR
            exact X_198 x6_198 LM13_198 (by first | assumption | omega | exact hw_upb (by assumption) (by omega)) H locs hP hD hS ls (lv_sub hl [0, 1, 2, 3, 4, 5] rfl) hR
          · replace hR := (if_neg c204).symm.trans hR
            refine lv_aload_n hx hb d_Model_lay_207 rfl (lv_at hl 0 rfl) ?_
            refine va_get (D := (dC, dI)) (ci := 5) (v := .ref (aM 20)) (C := R_Model) (T := T_Model) (N := 30) hx hb hG in_Model hown hK hP 0 rfl rfl 26 (by decide) (hG _ m_640) (fun _ h9 => h9) rfl d_Model_lay_208 ?_
            refine lv_bipush (v := nI 34) hx hb d_Model_lay_211 (by decide) ?_
            refine lv_bipush (v := nI 13) hx hb d_Model_lay_213 (by decide) ?_
            refine lv_iload hx hb d_Model_lay_215 (lv_at hl 5 rfl) ?_
            refine hw_iadd hx hb d_Model_lay_217 ?_
            refine hw_imul hx hb d_Model_lay_218 ?_
            refine lv_bipush (v := nI 21) hx hb d_Model_lay_219 (by decide) ?_
            refine hw_iadd hx hb d_Model_lay_221 ?_
            refine lv_aload_n hx hb d_Model_lay_222 rfl (lv_at hl 0 rfl) ?_
            refine va_get (D := (dC, dI)) (ci := 5) (v := .ref (aM 6)) (C := R_Model) (T := T_Model) (N := 30) hx hb hG in_Model hown hK hP 0 rfl rfl 8 (by decide) (hG _ m_622) (fun _ h9 => h9) rfl d_Model_lay_223 ?_
            refine lv_iload hx hb d_Model_lay_226 (lv_at hl 5 rfl) ?_
            refine hw_nald (g := NM2) hx hb hK hP 6 0 rfl rfl (by decide) (by omega) d_Model_lay_228 ?_
            have hb228 := mfw x6_198
            refine hw_iadd hx hb d_Model_lay_229 ?_
            refine lv_aload_n hx hb d_Model_lay_230 rfl (lv_at hl 0 rfl) ?_
            refine va_get (D := (dC, dI)) (ci := 5) (v := .ref (aM 5)) (C := R_Model) (T := T_Model) (N := 30) hx hb hG in_Model hown hK hP 0 rfl rfl 7 (by decide) (hG _ m_621) (fun _ h9 => h9) rfl d_Model_lay_231 ?_
            refine lv_iload hx hb d_Model_lay_234 (lv_at hl 5 rfl) ?_
            refine hw_lald (f := LM2) hx hb hK hP 5 1 rfl rfl (by decide) (by omega) d_Model_lay_236 ?_
            refine lv_iload hx hb d_Model_lay_237 (lv_at hl 5 rfl) ?_
            refine lv_iload_n hx hb d_Model_lay_239 rfl (lv_at hl 2 rfl) ?_
            refine lv_icmp_ne (tgt := 247) hx hb d_Model_lay_240 (by decide) (fun c240 => ?_) (fun c240 => ?_)
            · replace hR := (if_neg c240).symm.trans hR
              refine lv_lconst (v := 0) hx hb d_Model_lay_247 (by decide) ?_
              refine lv_ladd hx hb d_Model_lay_248 ?_
              refine hw_last (f := LM13_198) hx hb hK hP hD hS 20 1 rfl rfl (by decide) (by omega) d_Model_lay_249 (fun H locs hP hD hS => ?_)
              have hP : va_P (dC, dI) vwCl (w_M cI cJ cZ aM VM0 VM1 VM2 VM3 VM4 VM5 WM0 NM0 NM1 NM2 LM0 LM1 LM2 LM3 LM4 LM5 LM6 LM7 LM8 LM9 LM10 LM11 LM12 (vp_updL LM13_198 (((34 * (13 + x6_198)) + 21) + (NM2 x6_198)) ((LM2 x6_198) + 0)) LM14_36 LM15 IM0 IM1 IM2 IM3) H := hP
              have hD : va_D A (w_M cI cJ cZ aM VM0 VM1 VM2 VM3 VM4 VM5 WM0 NM0 NM1 NM2 LM0 LM1 LM2 LM3 LM4 LM5 LM6 LM7 LM8 LM9 LM10 LM11 LM12 (vp_updL LM13_198 (((34 * (13 + x6_198)) + 21) + (NM2 x6_198)) ((LM2 x6_198) + 0)) LM14_36 LM15 IM0 IM1 IM2 IM3) := hD
              refine lv_iinc (v := nI (x6_198 + 1)) (lv' := [(6, .int (nI (x6_198 + 1))), (0, .ref (aM 0)), (1, .int x1), (2, .int x2), (3, .long x3), (5, .int x5)]) hx hb d_Model_lay_250 hl (k := 5) rfl (hw_inc _ 1) (by decide) rfl (fun ls hl => ?_)
              refine lv_goto (tgt := 198) hx hb d_Model_lay_253 (by decide) ?_
              rw [hrec_198] at hR
              exact ih_198 (x6_198 + 1) (vp_updL LM13_198 (((34 * (13 + x6_198)) + 21) + (NM2 x6_198)) ((LM2 x6_198) + 0)) (by first | assumption | omega | exact hw_upb (by assumption) (by omega)) (by omega) H locs hP hD hS ls (lv_sub hl [1, 2, 3, 4, 5, 0] rfl) hR
            · replace hR := (if_pos c240).symm.trans hR
              refine lv_lload_n hx hb d_Model_lay_243 rfl (lv_at hl 3 rfl) ?_
              refine lv_goto (tgt := 248) hx hb d_Model_lay_244 (by decide) ?_
              refine lv_ladd hx hb d_Model_lay_248 ?_
              refine hw_last (f := LM13_198) hx hb hK hP hD hS 20 1 rfl rfl (by decide) (by omega) d_Model_lay_249 (fun H locs hP hD hS => ?_)
              have hP : va_P (dC, dI) vwCl (w_M cI cJ cZ aM VM0 VM1 VM2 VM3 VM4 VM5 WM0 NM0 NM1 NM2 LM0 LM1 LM2 LM3 LM4 LM5 LM6 LM7 LM8 LM9 LM10 LM11 LM12 (vp_updL LM13_198 (((34 * (13 + x6_198)) + 21) + (NM2 x6_198)) ((LM2 x6_198) + x3)) LM14_36 LM15 IM0 IM1 IM2 IM3) H := hP
              have hD : va_D A (w_M cI cJ cZ aM VM0 VM1 VM2 VM3 VM4 VM5 WM0 NM0 NM1 NM2 LM0 LM1 LM2 LM3 LM4 LM5 LM6 LM7 LM8 LM9 LM10 LM11 LM12 (vp_updL LM13_198 (((34 * (13 + x6_198)) + 21) + (NM2 x6_198)) ((LM2 x6_198) + x3)) LM14_36 LM15 IM0 IM1 IM2 IM3) := hD
              refine lv_iinc (v := nI (x6_198 + 1)) (lv' := [(6, .int (nI (x6_198 + 1))), (0, .ref (aM 0)), (1, .int x1), (2, .int x2), (3, .long x3), (5, .int x5)]) hx hb d_Model_lay_250 hl (k := 5) rfl (hw_inc _ 1) (by decide) rfl (fun ls hl => ?_)
              refine lv_goto (tgt := 198) hx hb d_Model_lay_253 (by decide) ?_
              rw [hrec_198] at hR
              exact ih_198 (x6_198 + 1) (vp_updL LM13_198 (((34 * (13 + x6_198)) + 21) + (NM2 x6_198)) ((LM2 x6_198) + x3)) (by first | assumption | omega | exact hw_upb (by assumption) (by omega)) (by omega) H locs hP hD hS ls (lv_sub hl [1, 2, 3, 4, 5, 0] rfl) hR
      exact L_198 9 0 LM13_36 (by first | assumption | omega | exact hw_upb (by assumption) (by omega)) (by omega) H locs hP hD hS ls (lv_sub hl [1, 2, 3, 4, 5, 0] rfl) hR
    have L_36 : ∀ (n : Nat) (x6_36 : Nat) (LM13_36 : Nat → Int64) (LM14_36 : Nat → Int64) (hi : x6_36 ≤ (VM1 + VM4)) (hfu : (VM1 + VM4) - x6_36 < n) (H : Heap) (locs : List Loc) (hP : va_P (dC, dI) vwCl (w_M cI cJ cZ aM VM0 VM1 VM2 VM3 VM4 VM5 WM0 NM0 NM1 NM2 LM0 LM1 LM2 LM3 LM4 LM5 LM6 LM7 LM8 LM9 LM10 LM11 LM12 LM13_36 LM14_36 LM15 IM0 IM1 IM2 IM3) H) (hD : va_D A (w_M cI cJ cZ aM VM0 VM1 VM2 VM3 VM4 VM5 WM0 NM0 NM1 NM2 LM0 LM1 LM2 LM3 LM4 LM5 LM6 LM7 LM8 LM9 LM10 LM11 LM12 LM13_36 LM14_36 LM15 IM0 IM1 IM2 IM3)) (hS : va_S A s.heap H locs) (ls : Array Slot) (hl : lv_has ls 9 [(0, .ref (aM 0)), (1, .int x1), (2, .int x2), (3, .long x3), (5, .int x5), (6, .int (nI x6_36))]) (hR : f_Model_lay_h36 VM1 VM4 NM0 LM0 LM4 LM5 x1 VM2 NM1 NM2 IM0 VM3 LM1 LM3 LM6 LM7 LM8 LM9 LM10 IM1 x5 k_36 n x6_36 LM13_36 LM14_36 = r0), W p l e (headSpec u_Model_lay ({ frames := 2, cells := 0, slots := 0, locals := 57 })).room s m ([.ref (aM 0), .int x1, .int x2, .long x3, .int x5]).toArray below meth c H locs 0 0 (hh_Zv below (dC, dI) vwCl [(cI, .int), (cJ, .long), (cZ, .boolean)] A (w_M cI cJ cZ aM VM0 VM1 VM2 VM3 VM4 VM5 WM0 NM0 NM1 NM2 LM0 LM1 LM2 LM3 LM4 LM5 LM6 LM7 LM8 LM9 LM10 LM11 LM12 r0.1 r0.2 LM15 IM0 IM1 IM2 IM3) ([.ref (aM 0), .int x1, .int x2, .long x3, .int x5]).toArray s) (F0 m 36 ls []) := by
      intro n
      induction n with
      | zero =>
        intro x6_36 LM13_36 LM14_36 hi hfu H locs hP hD hS ls hl hR
        exact absurd hfu (Nat.not_lt_zero _)
      | succ n ih_36 =>
        intro x6_36 LM13_36 LM14_36 hi hfu H locs hP hD hS ls hl hR
        rw [f_Model_lay_h36] at hR
        obtain ⟨rec_36, hrec_36, hR⟩ : ∃ r, r = _ ∧ f_Model_lay_h36B VM1 VM4 NM0 LM0 LM4 LM5 x1 VM2 NM1 NM2 IM0 VM3 LM1 LM3 LM6 LM7 LM8 LM9 LM10 IM1 x5 k_36 r x6_36 LM13_36 LM14_36 = r0 := ⟨_, rfl, hR⟩
        unfold f_Model_lay_h36B at hR
        refine lv_iload hx hb d_Model_lay_36 (lv_at hl 5 rfl) ?_
        refine lv_aload_n hx hb d_Model_lay_38 rfl (lv_at hl 0 rfl) ?_
        refine va_get (D := (dC, dI)) (ci := 5) (v := .int (nI VM1)) (C := R_Model) (T := T_Model) (N := 30) hx hb hG in_Model hown hK hP 0 rfl rfl 1 (by decide) (hG _ m_615) (fun _ h9 => h9) rfl d_Model_lay_39 ?_
        refine lv_aload_n hx hb d_Model_lay_42 rfl (lv_at hl 0 rfl) ?_
        refine va_get (D := (dC, dI)) (ci := 5) (v := .int (nI VM4)) (C := R_Model) (T := T_Model) (N := 30) hx hb hG in_Model hown hK hP 0 rfl rfl 18 (by decide) (hG _ m_632) (fun _ h9 => h9) rfl d_Model_lay_43 ?_
        refine hw_iadd hx hb d_Model_lay_46 ?_
        refine hw_icmp_ge (tgt := 195) hx hb d_Model_lay_47 (by decide) (by omega) (by omega) (fun c47 => ?_) (fun c47 => ?_)
        · replace hR := (if_pos c47).symm.trans hR
          exact X_36 x6_36 LM13_36 LM14_36 (by first | assumption | omega | exact hw_upb (by assumption) (by omega)) H locs hP hD hS ls (lv_sub hl [0, 1, 2, 3, 4, 5] rfl) hR
        · replace hR := (if_neg c47).symm.trans hR
          refine lv_aload_n hx hb d_Model_lay_50 rfl (lv_at hl 0 rfl) ?_
          refine va_get (D := (dC, dI)) (ci := 5) (v := .ref (aM 20)) (C := R_Model) (T := T_Model) (N := 30) hx hb hG in_Model hown hK hP 0 rfl rfl 26 (by decide) (hG _ m_640) (fun _ h9 => h9) rfl d_Model_lay_51 ?_
          refine lv_iconst (v := nI 1) hx hb d_Model_lay_54 (by decide) ?_
          refine lv_iload hx hb d_Model_lay_55 (lv_at hl 5 rfl) ?_
          refine hw_iadd hx hb d_Model_lay_57 ?_
          refine lv_iload hx hb d_Model_lay_58 (lv_at hl 5 rfl) ?_
          refine lv_aload_n hx hb d_Model_lay_60 rfl (lv_at hl 0 rfl) ?_
          refine va_get (D := (dC, dI)) (ci := 5) (v := .int (nI VM1)) (C := R_Model) (T := T_Model) (N := 30) hx hb hG in_Model hown hK hP 0 rfl rfl 1 (by decide) (hG _ m_615) (fun _ h9 => h9) rfl d_Model_lay_61 ?_
          refine hw_icmp_lt (tgt := 73) hx hb d_Model_lay_64 (by decide) (by omega) (by omega) (fun c64 => ?_) (fun c64 => ?_)
          · replace hR := (if_pos c64).symm.trans hR
            refine lv_aload_n hx hb d_Model_lay_73 rfl (lv_at hl 0 rfl) ?_
            refine lv_iload hx hb d_Model_lay_74 (lv_at hl 5 rfl) ?_
            obtain ⟨y76, hy76, hR⟩ := hw_bind hR
            have hM := c_Model_gives l dC dI cI cJ cZ H.size aM VM0 VM1 VM2 VM3 VM4 VM5 WM0 NM0 NM1 NM2 LM0 LM1 LM2 LM3 LM4 LM5 LM6 LM7 LM8 LM9 LM10 LM11 LM12 LM13_36 LM14_36 LM15 IM0 IM1 IM2 IM3 x6_36 (by first | assumption | omega) (by first | assumption | omega) (by first | assumption | omega)
            rw [hy76] at hM
            refine hw_callVl (As := [.int (nI x6_36)]) (rest := [.int (nI (1 + x6_36)), .ref (aM 20)]) (wr := ([] : va_W)) ⟨hx, hb, hml, hown, hG⟩ hM (hw_cwV 1 hG m_758 m_760 mp_22 m_7 m_761 rfl rfl (by decide +kernel) ⟨Nat.le_of_ble_eq_true rfl, Nat.le_of_ble_eq_true rfl⟩) hK hP hD hS hA [0, 1, 2, 3, 4, 5, 6, 7, 8, 9, 10, 11, 12, 13, 14, 15, 16, 17, 18, 19, 20, 21, 22, 23] [] rfl rfl (by decide) (by decide) (by decide) (hw_recv hK hP 0 rfl rfl) rfl hl.1 rfl (Nat.le_of_ble_eq_true rfl) d_Model_lay_76 ⟨Nat.le_of_ble_eq_true rfl, Nat.le_of_ble_eq_true rfl⟩ (fun H locs hP hD hS => ?_)
            have hP : va_P (dC, dI) vwCl (w_M cI cJ cZ aM VM0 VM1 VM2 VM3 VM4 VM5 WM0 NM0 NM1 NM2 LM0 LM1 LM2 LM3 LM4 LM5 LM6 LM7 LM8 LM9 LM10 LM11 LM12 LM13_36 LM14_36 LM15 IM0 IM1 IM2 IM3) H := hP
            have hD : va_D A (w_M cI cJ cZ aM VM0 VM1 VM2 VM3 VM4 VM5 WM0 NM0 NM1 NM2 LM0 LM1 LM2 LM3 LM4 LM5 LM6 LM7 LM8 LM9 LM10 LM11 LM12 LM13_36 LM14_36 LM15 IM0 IM1 IM2 IM3) := hD
            refine lv_iload hx hb d_Model_lay_79 (lv_at hl 5 rfl) ?_
            refine lv_iload_n hx hb d_Model_lay_81 rfl (lv_at hl 1 rfl) ?_
            refine lv_icmp_ne (tgt := 89) hx hb d_Model_lay_82 (by decide) (fun c82 => ?_) (fun c82 => ?_)
            · replace hR := (if_neg c82).symm.trans hR
              refine lv_lconst (v := 0) hx hb d_Model_lay_89 (by decide) ?_
              refine lv_lsub hx hb d_Model_lay_90 ?_
              refine hw_last (f := LM13_36) hx hb hK hP hD hS 20 1 rfl rfl (by decide) (by omega) d_Model_lay_91 (fun H locs hP hD hS => ?_)
              have hP : va_P (dC, dI) vwCl (w_M cI cJ cZ aM VM0 VM1 VM2 VM3 VM4 VM5 WM0 NM0 NM1 NM2 LM0 LM1 LM2 LM3 LM4 LM5 LM6 LM7 LM8 LM9 LM10 LM11 LM12 (vp_updL LM13_36 (1 + x6_36) (y76 - 0)) LM14_36 LM15 IM0 IM1 IM2 IM3) H := hP
              have hD : va_D A (w_M cI cJ cZ aM VM0 VM1 VM2 VM3 VM4 VM5 WM0 NM0 NM1 NM2 LM0 LM1 LM2 LM3 LM4 LM5 LM6 LM7 LM8 LM9 LM10 LM11 LM12 (vp_updL LM13_36 (1 + x6_36) (y76 - 0)) LM14_36 LM15 IM0 IM1 IM2 IM3) := hD
              refine lv_iconst (v := nI 0) hx hb d_Model_lay_92 (by decide) ?_
              refine lv_istore (lv' := [(7, .int (nI 0)), (0, .ref (aM 0)), (1, .int x1), (2, .int x2), (3, .long x3), (5, .int x5), (6, .int (nI x6_36))]) hx hb d_Model_lay_93 hl (by decide) rfl (fun ls hl => ?_)
              obtain ⟨k_95, hk_95, hR⟩ : ∃ k, (f_Model_lay_x95 rec_36 x6_36) = k ∧ f_Model_lay_h95 VM2 VM1 NM0 NM1 NM2 IM0 x6_36 VM3 LM1 LM3 LM6 LM7 LM8 LM9 LM10 IM1 x5 k 9 0 (vp_updL LM13_36 (1 + x6_36) (y76 - 0)) LM14_36 = r0 := ⟨_, rfl, hR⟩
              have X_95 : ∀ (x7_95 : Nat) (LM13_95 : Nat → Int64) (LM14_95 : Nat → Int64) (hi : x7_95 ≤ VM2) (H : Heap) (locs : List Loc) (hP : va_P (dC, dI) vwCl (w_M cI cJ cZ aM VM0 VM1 VM2 VM3 VM4 VM5 WM0 NM0 NM1 NM2 LM0 LM1 LM2 LM3 LM4 LM5 LM6 LM7 LM8 LM9 LM10 LM11 LM12 LM13_95 LM14_95 LM15 IM0 IM1 IM2 IM3) H) (hD : va_D A (w_M cI cJ cZ aM VM0 VM1 VM2 VM3 VM4 VM5 WM0 NM0 NM1 NM2 LM0 LM1 LM2 LM3 LM4 LM5 LM6 LM7 LM8 LM9 LM10 LM11 LM12 LM13_95 LM14_95 LM15 IM0 IM1 IM2 IM3)) (hS : va_S A s.heap H locs) (ls : Array Slot) (hl : lv_has ls 9 [(0, .ref (aM 0)), (1, .int x1), (2, .int x2), (3, .long x3), (5, .int x5), (6, .int (nI x6_36)), (7, .int (nI x7_95))]) (hR : k_95 x7_95 LM13_95 LM14_95 = r0), W p l e (headSpec u_Model_lay ({ frames := 2, cells := 0, slots := 0, locals := 57 })).room s m ([.ref (aM 0), .int x1, .int x2, .long x3, .int x5]).toArray below meth c H locs 0 0 (hh_Zv below (dC, dI) vwCl [(cI, .int), (cJ, .long), (cZ, .boolean)] A (w_M cI cJ cZ aM VM0 VM1 VM2 VM3 VM4 VM5 WM0 NM0 NM1 NM2 LM0 LM1 LM2 LM3 LM4 LM5 LM6 LM7 LM8 LM9 LM10 LM11 LM12 r0.1 r0.2 LM15 IM0 IM1 IM2 IM3) ([.ref (aM 0), .int x1, .int x2, .long x3, .int x5]).toArray s) (F0 m 189 ls []) := by
                intro x7_95 LM13_95 LM14_95 hi H locs hP hD hS ls hl hR
                rw [← hk_95] at hR
                unfold f_Model_lay_x95 at hR
                refine lv_iinc (v := nI (x6_36 + 1)) (lv' := [(6, .int (nI (x6_36 + 1))), (0, .ref (aM 0)), (1, .int x1), (2, .int x2), (3, .long x3), (5, .int x5), (7, .int (nI x7_95))]) hx hb d_Model_lay_189 hl (k := 5) rfl (hw_inc _ 1) (by decide) rfl (fun ls hl => ?_)
                refine lv_goto (tgt := 36) hx hb d_Model_lay_192 (by decide) ?_
                rw [hrec_36] at hR
                exact ih_36 (x6_36 + 1) LM13_95 LM14_95 (by first | assumption | omega | exact hw_upb (by assumption) (by omega)) (by omega) H locs hP hD hS ls (lv_sub hl [1, 2, 3, 4, 5, 0] rfl) hR
              have L_95 : ∀ (n : Nat) (x7_95 : Nat) (LM13_95 : Nat → Int64) (LM14_95 : Nat → Int64) (hi : x7_95 ≤ VM2) (hfu : VM2 - x7_95 < n) (H : Heap) (locs : List Loc) (hP : va_P (dC, dI) vwCl (w_M cI cJ cZ aM VM0 VM1 VM2 VM3 VM4 VM5 WM0 NM0 NM1 NM2 LM0 LM1 LM2 LM3 LM4 LM5 LM6 LM7 LM8 LM9 LM10 LM11 LM12 LM13_95 LM14_95 LM15 IM0 IM1 IM2 IM3) H) (hD : va_D A (w_M cI cJ cZ aM VM0 VM1 VM2 VM3 VM4 VM5 WM0 NM0 NM1 NM2 LM0 LM1 LM2 LM3 LM4 LM5 LM6 LM7 LM8 LM9 LM10 LM11 LM12 LM13_95 LM14_95 LM15 IM0 IM1 IM2 IM3)) (hS : va_S A s.heap H locs) (ls : Array Slot) (hl : lv_has ls 9 [(0, .ref (aM 0)), (1, .int x1), (2, .int x2), (3, .long x3), (5, .int x5), (6, .int (nI x6_36)), (7, .int (nI x7_95))]) (hR : f_Model_lay_h95 VM2 VM1 NM0 NM1 NM2 IM0 x6_36 VM3 LM1 LM3 LM6 LM7 LM8 LM9 LM10 IM1 x5 k_95 n x7_95 LM13_95 LM14_95 = r0), W p l e (headSpec u_Model_lay ({ frames := 2, cells := 0, slots := 0, locals := 57 })).room s m ([.ref (aM 0), .int x1, .int x2, .long x3, .int x5]).toArray below meth c H locs 0 0 (hh_Zv below (dC, dI) vwCl [(cI, .int), (cJ, .long), (cZ, .boolean)] A (w_M cI cJ cZ aM VM0 VM1 VM2 VM3 VM4 VM5 WM0 NM0 NM1 NM2 LM0 LM1 LM2 LM3 LM4 LM5 LM6 LM7 LM8 LM9 LM10 LM11 LM12 r0.1 r0.2 LM15 IM0 IM1 IM2 IM3) ([.ref (aM 0), .int x1, .int x2, .long x3, .int x5]).toArray s) (F0 m 95 ls []) := by
                intro n
                induction n with
                | zero =>
                  intro x7_95 LM13_95 LM14_95 hi hfu H locs hP hD hS ls hl hR
                  exact absurd hfu (Nat.not_lt_zero _)
                | succ n ih_95 =>
                  intro x7_95 LM13_95 LM14_95 hi hfu H locs hP hD hS ls hl hR
                  rw [f_Model_lay_h95] at hR
                  obtain ⟨rec_95, hrec_95, hR⟩ : ∃ r, r = _ ∧ f_Model_lay_h95B VM2 VM1 NM0 NM1 NM2 IM0 x6_36 VM3 LM1 LM3 LM6 LM7 LM8 LM9 LM10 IM1 x5 k_95 r x7_95 LM13_95 LM14_95 = r0 := ⟨_, rfl, hR⟩
                  unfold f_Model_lay_h95B at hR
                  refine lv_iload hx hb d_Model_lay_95 (lv_at hl 6 rfl) ?_
                  refine lv_aload_n hx hb d_Model_lay_97 rfl (lv_at hl 0 rfl) ?_
                  refine va_get (D := (dC, dI)) (ci := 5) (v := .int (nI VM2)) (C := R_Model) (T := T_Model) (N := 30) hx hb hG in_Model hown hK hP 0 rfl rfl 6 (by decide) (hG _ m_620) (fun _ h9 => h9) rfl d_Model_lay_98 ?_
                  refine hw_icmp_ge (tgt := 189) hx hb d_Model_lay_101 (by decide) (by omega) (by omega) (fun c101 => ?_) (fun c101 => ?_)
                  · replace hR := (if_pos c101).symm.trans hR
                    exact X_95 x7_95 LM13_95 LM14_95 (by first | assumption | omega | exact hw_upb (by assumption) (by omega)) H locs hP hD hS ls (lv_sub hl [0, 1, 2, 3, 4, 5, 6] rfl) hR
                  · replace hR := (if_neg c101).symm.trans hR
                    refine lv_aload_n hx hb d_Model_lay_104 rfl (lv_at hl 0 rfl) ?_
                    refine lv_iload hx hb d_Model_lay_105 (lv_at hl 5 rfl) ?_
                    refine lv_iload hx hb d_Model_lay_107 (lv_at hl 6 rfl) ?_
                    obtain ⟨y109, hy109, hR⟩ := hw_bind hR
                    have hM := c_Model_serves l dC dI cI cJ cZ H.size aM VM0 VM1 VM2 VM3 VM4 VM5 WM0 NM0 NM1 NM2 LM0 LM1 LM2 LM3 LM4 LM5 LM6 LM7 LM8 LM9 LM10 LM11 LM12 LM13_95 LM14_95 LM15 IM0 IM1 IM2 IM3 x6_36 x7_95 (by first | assumption | omega) (by first | assumption | omega) (by first | assumption | omega) (by first | assumption | omega) (by first | assumption | omega) (by first | assumption | omega)
                    rw [hy109] at hM
                    refine hw_callVi (As := [.int (nI x6_36), .int (nI x7_95)]) (rest := []) (wr := ([] : va_W)) ⟨hx, hb, hml, hown, hG⟩ hM (hw_cwV 2 hG m_762 m_764 mp_23 m_7 m_765 rfl rfl (by decide +kernel) ⟨Nat.le_of_ble_eq_true rfl, Nat.le_of_ble_eq_true rfl⟩) hK hP hD hS hA [0, 1, 2, 3, 4, 5, 6, 7, 8, 9, 10, 11, 12, 13, 14, 15, 16, 17, 18, 19, 20, 21, 22, 23] [] rfl rfl (by decide) (by decide) (by decide) (hw_recv hK hP 0 rfl rfl) rfl hl.1 rfl (Nat.le_of_ble_eq_true rfl) d_Model_lay_109 ⟨Nat.le_of_ble_eq_true rfl, Nat.le_of_ble_eq_true rfl⟩ (fun H locs hP hD hS => ?_)
                    have hP : va_P (dC, dI) vwCl (w_M cI cJ cZ aM VM0 VM1 VM2 VM3 VM4 VM5 WM0 NM0 NM1 NM2 LM0 LM1 LM2 LM3 LM4 LM5 LM6 LM7 LM8 LM9 LM10 LM11 LM12 LM13_95 LM14_95 LM15 IM0 IM1 IM2 IM3) H := hP
                    have hD : va_D A (w_M cI cJ cZ aM VM0 VM1 VM2 VM3 VM4 VM5 WM0 NM0 NM1 NM2 LM0 LM1 LM2 LM3 LM4 LM5 LM6 LM7 LM8 LM9 LM10 LM11 LM12 LM13_95 LM14_95 LM15 IM0 IM1 IM2 IM3) := hD
                    refine lv_if_eq (tgt := 183) hx hb d_Model_lay_112 (by decide) (fun c112 => ?_) (fun c112 => ?_)
                    · replace hR := (if_pos c112).symm.trans hR
                      refine lv_iinc (v := nI (x7_95 + 1)) (lv' := [(7, .int (nI (x7_95 + 1))), (0, .ref (aM 0)), (1, .int x1), (2, .int x2), (3, .long x3), (5, .int x5), (6, .int (nI x6_36))]) hx hb d_Model_lay_183 hl (k := 6) rfl (hw_inc _ 1) (by decide) rfl (fun ls hl => ?_)
                      refine lv_goto (tgt := 95) hx hb d_Model_lay_186 (by decide) ?_
                      rw [hrec_95] at hR
                      exact ih_95 (x7_95 + 1) LM13_95 LM14_95 (by first | assumption | omega | exact hw_upb (by assumption) (by omega)) (by omega) H locs hP hD hS ls (lv_sub hl [1, 2, 3, 4, 5, 6, 0] rfl) hR
                    · replace hR := (if_neg c112).symm.trans hR
                      refine lv_bipush (v := nI 34) hx hb d_Model_lay_115 (by decide) ?_
                      refine lv_iconst (v := nI 1) hx hb d_Model_lay_117 (by decide) ?_
                      refine lv_iload hx hb d_Model_lay_118 (lv_at hl 5 rfl) ?_
                      refine hw_iadd hx hb d_Model_lay_120 ?_
                      refine hw_imul hx hb d_Model_lay_121 ?_
                      refine lv_bipush (v := nI 13) hx hb d_Model_lay_122 (by decide) ?_
                      refine hw_iadd hx hb d_Model_lay_124 ?_
                      refine lv_iload hx hb d_Model_lay_125 (lv_at hl 6 rfl) ?_
                      refine hw_iadd hx hb d_Model_lay_127 ?_
                      refine lv_istore (lv' := [(8, .int (nI (((34 * (1 + x6_36)) + 13) + x7_95))), (0, .ref (aM 0)), (1, .int x1), (2, .int x2), (3, .long x3), (5, .int x5), (6, .int (nI x6_36)), (7, .int (nI x7_95))]) hx hb d_Model_lay_128 hl (by decide) rfl (fun ls hl => ?_)
                      refine lv_aload_n hx hb d_Model_lay_130 rfl (lv_at hl 1 rfl) ?_
                      refine va_get (D := (dC, dI)) (ci := 5) (v := .ref (aM 20)) (C := R_Model) (T := T_Model) (N := 30) hx hb hG in_Model hown hK hP 0 rfl rfl 26 (by decide) (hG _ m_640) (fun _ h9 => h9) rfl d_Model_lay_131 ?_
                      refine lv_iload hx hb d_Model_lay_134 (lv_at hl 0 rfl) ?_
                      refine lv_ldc2 (v := 1000000000000) hx hb hown (hG _ m_613) d_Model_lay_136 ?_
                      refine hw_last (f := LM13_95) hx hb hK hP hD hS 20 1 rfl rfl (by decide) (by omega) d_Model_lay_139 (fun H locs hP hD hS => ?_)
                      have hP : va_P (dC, dI) vwCl (w_M cI cJ cZ aM VM0 VM1 VM2 VM3 VM4 VM5 WM0 NM0 NM1 NM2 LM0 LM1 LM2 LM3 LM4 LM5 LM6 LM7 LM8 LM9 LM10 LM11 LM12 (vp_updL LM13_95 (((34 * (1 + x6_36)) + 13) + x7_95) 1000000000000) LM14_95 LM15 IM0 IM1 IM2 IM3) H := hP
                      have hD : va_D A (w_M cI cJ cZ aM VM0 VM1 VM2 VM3 VM4 VM5 WM0 NM0 NM1 NM2 LM0 LM1 LM2 LM3 LM4 LM5 LM6 LM7 LM8 LM9 LM10 LM11 LM12 (vp_updL LM13_95 (((34 * (1 + x6_36)) + 13) + x7_95) 1000000000000) LM14_95 LM15 IM0 IM1 IM2 IM3) := hD
                      refine lv_aload_n hx hb d_Model_lay_140 rfl (lv_at hl 1 rfl) ?_
                      refine va_get (D := (dC, dI)) (ci := 5) (v := .ref (aM 21)) (C := R_Model) (T := T_Model) (N := 30) hx hb hG in_Model hown hK hP 0 rfl rfl 27 (by decide) (hG _ m_641) (fun _ h9 => h9) rfl d_Model_lay_141 ?_
                      refine lv_iload hx hb d_Model_lay_144 (lv_at hl 0 rfl) ?_
                      refine lv_aload_n hx hb d_Model_lay_146 rfl (lv_at hl 1 rfl) ?_
                      refine lv_iload hx hb d_Model_lay_147 (lv_at hl 6 rfl) ?_
                      refine lv_iload hx hb d_Model_lay_149 (lv_at hl 7 rfl) ?_
                      refine lv_iload hx hb d_Model_lay_151 (lv_at hl 5 rfl) ?_
                      obtain ⟨y153, hy153, hR⟩ := hw_bind hR
                      have hM := c_Model_unit l dC dI cI cJ cZ H.size aM VM0 VM1 VM2 VM3 VM4 VM5 WM0 NM0 NM1 NM2 LM0 LM1 LM2 LM3 LM4 LM5 LM6 LM7 LM8 LM9 LM10 LM11 LM12 (vp_updL LM13_95 (((34 * (1 + x6_36)) + 13) + x7_95) 1000000000000) LM14_95 LM15 IM0 IM1 IM2 IM3 x6_36 x7_95 x5 (by first | assumption | omega) (by first | assumption | omega) (by first | assumption | omega) (by first | assumption | omega) (by first | assumption | omega) (by first | assumption | omega)
                      rw [hy153] at hM
                      refine hw_callVl (As := [.int (nI x6_36), .int (nI x7_95), .int x5]) (rest := [.int (nI (((34 * (1 + x6_36)) + 13) + x7_95)), .ref (aM 21)]) (wr := ([] : va_W)) ⟨hx, hb, hml, hown, hG⟩ hM (hw_cwV 3 hG m_766 m_768 mp_24 m_7 m_769 rfl rfl (by decide +kernel) ⟨Nat.le_of_ble_eq_true rfl, Nat.le_of_ble_eq_true rfl⟩) hK hP hD hS hA [0, 1, 2, 3, 4, 5, 6, 7, 8, 9, 10, 11, 12, 13, 14, 15, 16, 17, 18, 19, 20, 21, 22, 23] [] rfl rfl (by decide) (by decide) (by decide) (hw_recv hK hP 0 rfl rfl) rfl hl.1 rfl (Nat.le_of_ble_eq_true rfl) d_Model_lay_153 ⟨Nat.le_of_ble_eq_true rfl, Nat.le_of_ble_eq_true rfl⟩ (fun H locs hP hD hS => ?_)
                      have hP : va_P (dC, dI) vwCl (w_M cI cJ cZ aM VM0 VM1 VM2 VM3 VM4 VM5 WM0 NM0 NM1 NM2 LM0 LM1 LM2 LM3 LM4 LM5 LM6 LM7 LM8 LM9 LM10 LM11 LM12 (vp_updL LM13_95 (((34 * (1 + x6_36)) + 13) + x7_95) 1000000000000) LM14_95 LM15 IM0 IM1 IM2 IM3) H := hP
                      have hD : va_D A (w_M cI cJ cZ aM VM0 VM1 VM2 VM3 VM4 VM5 WM0 NM0 NM1 NM2 LM0 LM1 LM2 LM3 LM4 LM5 LM6 LM7 LM8 LM9 LM10 LM11 LM12 (vp_updL LM13_95 (((34 * (1 + x6_36)) + 13) + x7_95) 1000000000000) LM14_95 LM15 IM0 IM1 IM2 IM3) := hD
                      refine hw_last (f := LM14_95) hx hb hK hP hD hS 21 1 rfl rfl (by decide) (by omega) d_Model_lay_156 (fun H locs hP hD hS => ?_)
                      have hP : va_P (dC, dI) vwCl (w_M cI cJ cZ aM VM0 VM1 VM2 VM3 VM4 VM5 WM0 NM0 NM1 NM2 LM0 LM1 LM2 LM3 LM4 LM5 LM6 LM7 LM8 LM9 LM10 LM11 LM12 (vp_updL LM13_95 (((34 * (1 + x6_36)) + 13) + x7_95) 1000000000000) (vp_updL LM14_95 (((34 * (1 + x6_36)) + 13) + x7_95) y153) LM15 IM0 IM1 IM2 IM3) H := hP
                      have hD : va_D A (w_M cI cJ cZ aM VM0 VM1 VM2 VM3 VM4 VM5 WM0 NM0 NM1 NM2 LM0 LM1 LM2 LM3 LM4 LM5 LM6 LM7 LM8 LM9 LM10 LM11 LM12 (vp_updL LM13_95 (((34 * (1 + x6_36)) + 13) + x7_95) 1000000000000) (vp_updL LM14_95 (((34 * (1 + x6_36)) + 13) + x7_95) y153) LM15 IM0 IM1 IM2 IM3) := hD
                      refine lv_aload_n hx hb d_Model_lay_157 rfl (lv_at hl 1 rfl) ?_
                      refine va_get (D := (dC, dI)) (ci := 5) (v := .ref (aM 21)) (C := R_Model) (T := T_Model) (N := 30) hx hb hG in_Model hown hK hP 0 rfl rfl 27 (by decide) (hG _ m_641) (fun _ h9 => h9) rfl d_Model_lay_158 ?_
                      refine lv_bipush (v := nI 34) hx hb d_Model_lay_161 (by decide) ?_
                      refine lv_bipush (v := nI 13) hx hb d_Model_lay_163 (by decide) ?_
                      refine lv_iload hx hb d_Model_lay_165 (lv_at hl 7 rfl) ?_
                      refine hw_iadd hx hb d_Model_lay_167 ?_
                      refine hw_imul hx hb d_Model_lay_168 ?_
                      refine lv_iconst (v := nI 1) hx hb d_Model_lay_169 (by decide) ?_
                      refine hw_iadd hx hb d_Model_lay_170 ?_
                      refine lv_iload hx hb d_Model_lay_171 (lv_at hl 6 rfl) ?_
                      refine hw_iadd hx hb d_Model_lay_173 ?_
                      refine lv_aload_n hx hb d_Model_lay_174 rfl (lv_at hl 1 rfl) ?_
                      refine va_get (D := (dC, dI)) (ci := 5) (v := .ref (aM 21)) (C := R_Model) (T := T_Model) (N := 30) hx hb hG in_Model hown hK hP 0 rfl rfl 27 (by decide) (hG _ m_641) (fun _ h9 => h9) rfl d_Model_lay_175 ?_
                      refine lv_iload hx hb d_Model_lay_178 (lv_at hl 0 rfl) ?_
                      refine hw_lald (f := (vp_updL LM14_95 (((34 * (1 + x6_36)) + 13) + x7_95) y153)) hx hb hK hP 21 1 rfl rfl (by decide) (by omega) d_Model_lay_180 ?_
                      refine lv_lneg hx hb d_Model_lay_181 ?_
                      refine hw_last (f := (vp_updL LM14_95 (((34 * (1 + x6_36)) + 13) + x7_95) y153)) hx hb hK hP hD hS 21 1 rfl rfl (by decide) (by omega) d_Model_lay_182 (fun H locs hP hD hS => ?_)
                      have hP : va_P (dC, dI) vwCl (w_M cI cJ cZ aM VM0 VM1 VM2 VM3 VM4 VM5 WM0 NM0 NM1 NM2 LM0 LM1 LM2 LM3 LM4 LM5 LM6 LM7 LM8 LM9 LM10 LM11 LM12 (vp_updL LM13_95 (((34 * (1 + x6_36)) + 13) + x7_95) 1000000000000) (vp_updL (vp_updL LM14_95 (((34 * (1 + x6_36)) + 13) + x7_95) y153) (((34 * (13 + x7_95)) + 1) + x6_36) (-((vp_updL LM14_95 (((34 * (1 + x6_36)) + 13) + x7_95) y153) (((34 * (1 + x6_36)) + 13) + x7_95)))) LM15 IM0 IM1 IM2 IM3) H := hP
                      have hD : va_D A (w_M cI cJ cZ aM VM0 VM1 VM2 VM3 VM4 VM5 WM0 NM0 NM1 NM2 LM0 LM1 LM2 LM3 LM4 LM5 LM6 LM7 LM8 LM9 LM10 LM11 LM12 (vp_updL LM13_95 (((34 * (1 + x6_36)) + 13) + x7_95) 1000000000000) (vp_updL (vp_updL LM14_95 (((34 * (1 + x6_36)) + 13) + x7_95) y153) (((34 * (13 + x7_95)) + 1) + x6_36) (-((vp_updL LM14_95 (((34 * (1 + x6_36)) + 13) + x7_95) y153) (((34 * (1 + x6_36)) + 13) + x7_95)))) LM15 IM0 IM1 IM2 IM3) := hD
                      refine lv_iinc (v := nI (x7_95 + 1)) (lv' := [(7, .int (nI (x7_95 + 1))), (8, .int (nI (((34 * (1 + x6_36)) + 13) + x7_95))), (0, .ref (aM 0)), (1, .int x1), (2, .int x2), (3, .long x3), (5, .int x5), (6, .int (nI x6_36))]) hx hb d_Model_lay_183 hl (k := 7) rfl (hw_inc _ 1) (by decide) rfl (fun ls hl => ?_)
                      refine lv_goto (tgt := 95) hx hb d_Model_lay_186 (by decide) ?_
                      rw [hrec_95] at hR
                      exact ih_95 (x7_95 + 1) (vp_updL LM13_95 (((34 * (1 + x6_36)) + 13) + x7_95) 1000000000000) (vp_updL (vp_updL LM14_95 (((34 * (1 + x6_36)) + 13) + x7_95) y153) (((34 * (13 + x7_95)) + 1) + x6_36) (-((vp_updL LM14_95 (((34 * (1 + x6_36)) + 13) + x7_95) y153) (((34 * (1 + x6_36)) + 13) + x7_95)))) (by first | assumption | omega | exact hw_upb (by assumption) (by omega)) (by omega) H locs hP hD hS ls (lv_sub hl [2, 3, 4, 5, 6, 7, 0] rfl) hR
              exact L_95 9 0 (vp_updL LM13_36 (1 + x6_36) (y76 - 0)) LM14_36 (by first | assumption | omega | exact hw_upb (by assumption) (by omega)) (by omega) H locs hP hD hS ls (lv_sub hl [1, 2, 3, 4, 5, 6, 0] rfl) hR
            · replace hR := (if_pos c82).symm.trans hR
              refine lv_lconst (v := 1) hx hb d_Model_lay_85 (by decide) ?_
              refine lv_goto (tgt := 90) hx hb d_Model_lay_86 (by decide) ?_
              refine lv_lsub hx hb d_Model_lay_90 ?_
              refine hw_last (f := LM13_36) hx hb hK hP hD hS 20 1 rfl rfl (by decide) (by omega) d_Model_lay_91 (fun H locs hP hD hS => ?_)
              have hP : va_P (dC, dI) vwCl (w_M cI cJ cZ aM VM0 VM1 VM2 VM3 VM4 VM5 WM0 NM0 NM1 NM2 LM0 LM1 LM2 LM3 LM4 LM5 LM6 LM7 LM8 LM9 LM10 LM11 LM12 (vp_updL LM13_36 (1 + x6_36) (y76 - 1)) LM14_36 LM15 IM0 IM1 IM2 IM3) H := hP
              have hD : va_D A (w_M cI cJ cZ aM VM0 VM1 VM2 VM3 VM4 VM5 WM0 NM0 NM1 NM2 LM0 LM1 LM2 LM3 LM4 LM5 LM6 LM7 LM8 LM9 LM10 LM11 LM12 (vp_updL LM13_36 (1 + x6_36) (y76 - 1)) LM14_36 LM15 IM0 IM1 IM2 IM3) := hD
              refine lv_iconst (v := nI 0) hx hb d_Model_lay_92 (by decide) ?_
              refine lv_istore (lv' := [(7, .int (nI 0)), (0, .ref (aM 0)), (1, .int x1), (2, .int x2), (3, .long x3), (5, .int x5), (6, .int (nI x6_36))]) hx hb d_Model_lay_93 hl (by decide) rfl (fun ls hl => ?_)
              obtain ⟨k_95, hk_95, hR⟩ : ∃ k, (f_Model_lay_x95 rec_36 x6_36) = k ∧ f_Model_lay_h95 VM2 VM1 NM0 NM1 NM2 IM0 x6_36 VM3 LM1 LM3 LM6 LM7 LM8 LM9 LM10 IM1 x5 k 9 0 (vp_updL LM13_36 (1 + x6_36) (y76 - 1)) LM14_36 = r0 := ⟨_, rfl, hR⟩
              have X_95 : ∀ (x7_95 : Nat) (LM13_95 : Nat → Int64) (LM14_95 : Nat → Int64) (hi : x7_95 ≤ VM2) (H : Heap) (locs : List Loc) (hP : va_P (dC, dI) vwCl (w_M cI cJ cZ aM VM0 VM1 VM2 VM3 VM4 VM5 WM0 NM0 NM1 NM2 LM0 LM1 LM2 LM3 LM4 LM5 LM6 LM7 LM8 LM9 LM10 LM11 LM12 LM13_95 LM14_95 LM15 IM0 IM1 IM2 IM3) H) (hD : va_D A (w_M cI cJ cZ aM VM0 VM1 VM2 VM3 VM4 VM5 WM0 NM0 NM1 NM2 LM0 LM1 LM2 LM3 LM4 LM5 LM6 LM7 LM8 LM9 LM10 LM11 LM12 LM13_95 LM14_95 LM15 IM0 IM1 IM2 IM3)) (hS : va_S A s.heap H locs) (ls : Array Slot) (hl : lv_has ls 9 [(0, .ref (aM 0)), (1, .int x1), (2, .int x2), (3, .long x3), (5, .int x5), (6, .int (nI x6_36)), (7, .int (nI x7_95))]) (hR : k_95 x7_95 LM13_95 LM14_95 = r0), W p l e (headSpec u_Model_lay ({ frames := 2, cells := 0, slots := 0, locals := 57 })).room s m ([.ref (aM 0), .int x1, .int x2, .long x3, .int x5]).toArray below meth c H locs 0 0 (hh_Zv below (dC, dI) vwCl [(cI, .int), (cJ, .long), (cZ, .boolean)] A (w_M cI cJ cZ aM VM0 VM1 VM2 VM3 VM4 VM5 WM0 NM0 NM1 NM2 LM0 LM1 LM2 LM3 LM4 LM5 LM6 LM7 LM8 LM9 LM10 LM11 LM12 r0.1 r0.2 LM15 IM0 IM1 IM2 IM3) ([.ref (aM 0), .int x1, .int x2, .long x3, .int x5]).toArray s) (F0 m 189 ls []) := by
                intro x7_95 LM13_95 LM14_95 hi H locs hP hD hS ls hl hR
                rw [← hk_95] at hR
                unfold f_Model_lay_x95 at hR
                refine lv_iinc (v := nI (x6_36 + 1)) (lv' := [(6, .int (nI (x6_36 + 1))), (0, .ref (aM 0)), (1, .int x1), (2, .int x2), (3, .long x3), (5, .int x5), (7, .int (nI x7_95))]) hx hb d_Model_lay_189 hl (k := 5) rfl (hw_inc _ 1) (by decide) rfl (fun ls hl => ?_)
                refine lv_goto (tgt := 36) hx hb d_Model_lay_192 (by decide) ?_
                rw [hrec_36] at hR
                exact ih_36 (x6_36 + 1) LM13_95 LM14_95 (by first | assumption | omega | exact hw_upb (by assumption) (by omega)) (by omega) H locs hP hD hS ls (lv_sub hl [1, 2, 3, 4, 5, 0] rfl) hR
              have L_95 : ∀ (n : Nat) (x7_95 : Nat) (LM13_95 : Nat → Int64) (LM14_95 : Nat → Int64) (hi : x7_95 ≤ VM2) (hfu : VM2 - x7_95 < n) (H : Heap) (locs : List Loc) (hP : va_P (dC, dI) vwCl (w_M cI cJ cZ aM VM0 VM1 VM2 VM3 VM4 VM5 WM0 NM0 NM1 NM2 LM0 LM1 LM2 LM3 LM4 LM5 LM6 LM7 LM8 LM9 LM10 LM11 LM12 LM13_95 LM14_95 LM15 IM0 IM1 IM2 IM3) H) (hD : va_D A (w_M cI cJ cZ aM VM0 VM1 VM2 VM3 VM4 VM5 WM0 NM0 NM1 NM2 LM0 LM1 LM2 LM3 LM4 LM5 LM6 LM7 LM8 LM9 LM10 LM11 LM12 LM13_95 LM14_95 LM15 IM0 IM1 IM2 IM3)) (hS : va_S A s.heap H locs) (ls : Array Slot) (hl : lv_has ls 9 [(0, .ref (aM 0)), (1, .int x1), (2, .int x2), (3, .long x3), (5, .int x5), (6, .int (nI x6_36)), (7, .int (nI x7_95))]) (hR : f_Model_lay_h95 VM2 VM1 NM0 NM1 NM2 IM0 x6_36 VM3 LM1 LM3 LM6 LM7 LM8 LM9 LM10 IM1 x5 k_95 n x7_95 LM13_95 LM14_95 = r0), W p l e (headSpec u_Model_lay ({ frames := 2, cells := 0, slots := 0, locals := 57 })).room s m ([.ref (aM 0), .int x1, .int x2, .long x3, .int x5]).toArray below meth c H locs 0 0 (hh_Zv below (dC, dI) vwCl [(cI, .int), (cJ, .long), (cZ, .boolean)] A (w_M cI cJ cZ aM VM0 VM1 VM2 VM3 VM4 VM5 WM0 NM0 NM1 NM2 LM0 LM1 LM2 LM3 LM4 LM5 LM6 LM7 LM8 LM9 LM10 LM11 LM12 r0.1 r0.2 LM15 IM0 IM1 IM2 IM3) ([.ref (aM 0), .int x1, .int x2, .long x3, .int x5]).toArray s) (F0 m 95 ls []) := by
                intro n
                induction n with
                | zero =>
                  intro x7_95 LM13_95 LM14_95 hi hfu H locs hP hD hS ls hl hR
                  exact absurd hfu (Nat.not_lt_zero _)
                | succ n ih_95 =>
                  intro x7_95 LM13_95 LM14_95 hi hfu H locs hP hD hS ls hl hR
                  rw [f_Model_lay_h95] at hR
                  obtain ⟨rec_95, hrec_95, hR⟩ : ∃ r, r = _ ∧ f_Model_lay_h95B VM2 VM1 NM0 NM1 NM2 IM0 x6_36 VM3 LM1 LM3 LM6 LM7 LM8 LM9 LM10 IM1 x5 k_95 r x7_95 LM13_95 LM14_95 = r0 := ⟨_, rfl, hR⟩
                  unfold f_Model_lay_h95B at hR
                  refine lv_iload hx hb d_Model_lay_95 (lv_at hl 6 rfl) ?_
                  refine lv_aload_n hx hb d_Model_lay_97 rfl (lv_at hl 0 rfl) ?_
                  refine va_get (D := (dC, dI)) (ci := 5) (v := .int (nI VM2)) (C := R_Model) (T := T_Model) (N := 30) hx hb hG in_Model hown hK hP 0 rfl rfl 6 (by decide) (hG _ m_620) (fun _ h9 => h9) rfl d_Model_lay_98 ?_
                  refine hw_icmp_ge (tgt := 189) hx hb d_Model_lay_101 (by decide) (by omega) (by omega) (fun c101 => ?_) (fun c101 => ?_)
                  · replace hR := (if_pos c101).symm.trans hR
                    exact X_95 x7_95 LM13_95 LM14_95 (by first | assumption | omega | exact hw_upb (by assumption) (by omega)) H locs hP hD hS ls (lv_sub hl [0, 1, 2, 3, 4, 5, 6] rfl) hR
                  · replace hR := (if_neg c101).symm.trans hR
                    refine lv_aload_n hx hb d_Model_lay_104 rfl (lv_at hl 0 rfl) ?_
                    refine lv_iload hx hb d_Model_lay_105 (lv_at hl 5 rfl) ?_
                    refine lv_iload hx hb d_Model_lay_107 (lv_at hl 6 rfl) ?_
                    obtain ⟨y109, hy109, hR⟩ := hw_bind hR
                    have hM := c_Model_serves l dC dI cI cJ cZ H.size aM VM0 VM1 VM2 VM3 VM4 VM5 WM0 NM0 NM1 NM2 LM0 LM1 LM2 LM3 LM4 LM5 LM6 LM7 LM8 LM9 LM10 LM11 LM12 LM13_95 LM14_95 LM15 IM0 IM1 IM2 IM3 x6_36 x7_95 (by first | assumption | omega) (by first | assumption | omega) (by first | assumption | omega) (by first | assumption | omega) (by first | assumption | omega) (by first | assumption | omega)
                    rw [hy109] at hM
                    refine hw_callVi (As := [.int (nI x6_36), .int (nI x7_95)]) (rest := []) (wr := ([] : va_W)) ⟨hx, hb, hml, hown, hG⟩ hM (hw_cwV 2 hG m_762 m_764 mp_23 m_7 m_765 rfl rfl (by decide +kernel) ⟨Nat.le_of_ble_eq_true rfl, Nat.le_of_ble_eq_true rfl⟩) hK hP hD hS hA [0, 1, 2, 3, 4, 5, 6, 7, 8, 9, 10, 11, 12, 13, 14, 15, 16, 17, 18, 19, 20, 21, 22, 23] [] rfl rfl (by decide) (by decide) (by decide) (hw_recv hK hP 0 rfl rfl) rfl hl.1 rfl (Nat.le_of_ble_eq_true rfl) d_Model_lay_109 ⟨Nat.le_of_ble_eq_true rfl, Nat.le_of_ble_eq_true rfl⟩ (fun H locs hP hD hS => ?_)
                    have hP : va_P (dC, dI) vwCl (w_M cI cJ cZ aM VM0 VM1 VM2 VM3 VM4 VM5 WM0 NM0 NM1 NM2 LM0 LM1 LM2 LM3 LM4 LM5 LM6 LM7 LM8 LM9 LM10 LM11 LM12 LM13_95 LM14_95 LM15 IM0 IM1 IM2 IM3) H := hP
                    have hD : va_D A (w_M cI cJ cZ aM VM0 VM1 VM2 VM3 VM4 VM5 WM0 NM0 NM1 NM2 LM0 LM1 LM2 LM3 LM4 LM5 LM6 LM7 LM8 LM9 LM10 LM11 LM12 LM13_95 LM14_95 LM15 IM0 IM1 IM2 IM3) := hD
                    refine lv_if_eq (tgt := 183) hx hb d_Model_lay_112 (by decide) (fun c112 => ?_) (fun c112 => ?_)
                    · replace hR := (if_pos c112).symm.trans hR
                      refine lv_iinc (v := nI (x7_95 + 1)) (lv' := [(7, .int (nI (x7_95 + 1))), (0, .ref (aM 0)), (1, .int x1), (2, .int x2), (3, .long x3), (5, .int x5), (6, .int (nI x6_36))]) hx hb d_Model_lay_183 hl (k := 6) rfl (hw_inc _ 1) (by decide) rfl (fun ls hl => ?_)
                      refine lv_goto (tgt := 95) hx hb d_Model_lay_186 (by decide) ?_
                      rw [hrec_95] at hR
                      exact ih_95 (x7_95 + 1) LM13_95 LM14_95 (by first | assumption | omega | exact hw_upb (by assumption) (by omega)) (by omega) H locs hP hD hS ls (lv_sub hl [1, 2, 3, 4, 5, 6, 0] rfl) hR
                    · replace hR := (if_neg c112).symm.trans hR
                      refine lv_bipush (v := nI 34) hx hb d_Model_lay_115 (by decide) ?_
                      refine lv_iconst (v := nI 1) hx hb d_Model_lay_117 (by decide) ?_
                      refine lv_iload hx hb d_Model_lay_118 (lv_at hl 5 rfl) ?_
                      refine hw_iadd hx hb d_Model_lay_120 ?_
                      refine hw_imul hx hb d_Model_lay_121 ?_
                      refine lv_bipush (v := nI 13) hx hb d_Model_lay_122 (by decide) ?_
                      refine hw_iadd hx hb d_Model_lay_124 ?_
                      refine lv_iload hx hb d_Model_lay_125 (lv_at hl 6 rfl) ?_
                      refine hw_iadd hx hb d_Model_lay_127 ?_
                      refine lv_istore (lv' := [(8, .int (nI (((34 * (1 + x6_36)) + 13) + x7_95))), (0, .ref (aM 0)), (1, .int x1), (2, .int x2), (3, .long x3), (5, .int x5), (6, .int (nI x6_36)), (7, .int (nI x7_95))]) hx hb d_Model_lay_128 hl (by decide) rfl (fun ls hl => ?_)
                      refine lv_aload_n hx hb d_Model_lay_130 rfl (lv_at hl 1 rfl) ?_
                      refine va_get (D := (dC, dI)) (ci := 5) (v := .ref (aM 20)) (C := R_Model) (T := T_Model) (N := 30) hx hb hG in_Model hown hK hP 0 rfl rfl 26 (by decide) (hG _ m_640) (fun _ h9 => h9) rfl d_Model_lay_131 ?_
                      refine lv_iload hx hb d_Model_lay_134 (lv_at hl 0 rfl) ?_
                      refine lv_ldc2 (v := 1000000000000) hx hb hown (hG _ m_613) d_Model_lay_136 ?_
                      refine hw_last (f := LM13_95) hx hb hK hP hD hS 20 1 rfl rfl (by decide) (by omega) d_Model_lay_139 (fun H locs hP hD hS => ?_)
                      have hP : va_P (dC, dI) vwCl (w_M cI cJ cZ aM VM0 VM1 VM2 VM3 VM4 VM5 WM0 NM0 NM1 NM2 LM0 LM1 LM2 LM3 LM4 LM5 LM6 LM7 LM8 LM9 LM10 LM11 LM12 (vp_updL LM13_95 (((34 * (1 + x6_36)) + 13) + x7_95) 1000000000000) LM14_95 LM15 IM0 IM1 IM2 IM3) H := hP
                      have hD : va_D A (w_M cI cJ cZ aM VM0 VM1 VM2 VM3 VM4 VM5 WM0 NM0 NM1 NM2 LM0 LM1 LM2 LM3 LM4 LM5 LM6 LM7 LM8 LM9 LM10 LM11 LM12 (vp_updL LM13_95 (((34 * (1 + x6_36)) + 13) + x7_95) 1000000000000) LM14_95 LM15 IM0 IM1 IM2 IM3) := hD
                      refine lv_aload_n hx hb d_Model_lay_140 rfl (lv_at hl 1 rfl) ?_
                      refine va_get (D := (dC, dI)) (ci := 5) (v := .ref (aM 21)) (C := R_Model) (T := T_Model) (N := 30) hx hb hG in_Model hown hK hP 0 rfl rfl 27 (by decide) (hG _ m_641) (fun _ h9 => h9) rfl d_Model_lay_141 ?_
                      refine lv_iload hx hb d_Model_lay_144 (lv_at hl 0 rfl) ?_
                      refine lv_aload_n hx hb d_Model_lay_146 rfl (lv_at hl 1 rfl) ?_
                      refine lv_iload hx hb d_Model_lay_147 (lv_at hl 6 rfl) ?_
                      refine lv_iload hx hb d_Model_lay_149 (lv_at hl 7 rfl) ?_
                      refine lv_iload hx hb d_Model_lay_151 (lv_at hl 5 rfl) ?_
                      obtain ⟨y153, hy153, hR⟩ := hw_bind hR
                      have hM := c_Model_unit l dC dI cI cJ cZ H.size aM VM0 VM1 VM2 VM3 VM4 VM5 WM0 NM0 NM1 NM2 LM0 LM1 LM2 LM3 LM4 LM5 LM6 LM7 LM8 LM9 LM10 LM11 LM12 (vp_updL LM13_95 (((34 * (1 + x6_36)) + 13) + x7_95) 1000000000000) LM14_95 LM15 IM0 IM1 IM2 IM3 x6_36 x7_95 x5 (by first | assumption | omega) (by first | assumption | omega) (by first | assumption | omega) (by first | assumption | omega) (by first | assumption | omega) (by first | assumption | omega)
                      rw [hy153] at hM
                      refine hw_callVl (As := [.int (nI x6_36), .int (nI x7_95), .int x5]) (rest := [.int (nI (((34 * (1 + x6_36)) + 13) + x7_95)), .ref (aM 21)]) (wr := ([] : va_W)) ⟨hx, hb, hml, hown, hG⟩ hM (hw_cwV 3 hG m_766 m_768 mp_24 m_7 m_769 rfl rfl (by decide +kernel) ⟨Nat.le_of_ble_eq_true rfl, Nat.le_of_ble_eq_true rfl⟩) hK hP hD hS hA [0, 1, 2, 3, 4, 5, 6, 7, 8, 9, 10, 11, 12, 13, 14, 15, 16, 17, 18, 19, 20, 21, 22, 23] [] rfl rfl (by decide) (by decide) (by decide) (hw_recv hK hP 0 rfl rfl) rfl hl.1 rfl (Nat.le_of_ble_eq_true rfl) d_Model_lay_153 ⟨Nat.le_of_ble_eq_true rfl, Nat.le_of_ble_eq_true rfl⟩ (fun H locs hP hD hS => ?_)
                      have hP : va_P (dC, dI) vwCl (w_M cI cJ cZ aM VM0 VM1 VM2 VM3 VM4 VM5 WM0 NM0 NM1 NM2 LM0 LM1 LM2 LM3 LM4 LM5 LM6 LM7 LM8 LM9 LM10 LM11 LM12 (vp_updL LM13_95 (((34 * (1 + x6_36)) + 13) + x7_95) 1000000000000) LM14_95 LM15 IM0 IM1 IM2 IM3) H := hP
                      have hD : va_D A (w_M cI cJ cZ aM VM0 VM1 VM2 VM3 VM4 VM5 WM0 NM0 NM1 NM2 LM0 LM1 LM2 LM3 LM4 LM5 LM6 LM7 LM8 LM9 LM10 LM11 LM12 (vp_updL LM13_95 (((34 * (1 + x6_36)) + 13) + x7_95) 1000000000000) LM14_95 LM15 IM0 IM1 IM2 IM3) := hD
                      refine hw_last (f := LM14_95) hx hb hK hP hD hS 21 1 rfl rfl (by decide) (by omega) d_Model_lay_156 (fun H locs hP hD hS => ?_)
                      have hP : va_P (dC, dI) vwCl (w_M cI cJ cZ aM VM0 VM1 VM2 VM3 VM4 VM5 WM0 NM0 NM1 NM2 LM0 LM1 LM2 LM3 LM4 LM5 LM6 LM7 LM8 LM9 LM10 LM11 LM12 (vp_updL LM13_95 (((34 * (1 + x6_36)) + 13) + x7_95) 1000000000000) (vp_updL LM14_95 (((34 * (1 + x6_36)) + 13) + x7_95) y153) LM15 IM0 IM1 IM2 IM3) H := hP
                      have hD : va_D A (w_M cI cJ cZ aM VM0 VM1 VM2 VM3 VM4 VM5 WM0 NM0 NM1 NM2 LM0 LM1 LM2 LM3 LM4 LM5 LM6 LM7 LM8 LM9 LM10 LM11 LM12 (vp_updL LM13_95 (((34 * (1 + x6_36)) + 13) + x7_95) 1000000000000) (vp_updL LM14_95 (((34 * (1 + x6_36)) + 13) + x7_95) y153) LM15 IM0 IM1 IM2 IM3) := hD
                      refine lv_aload_n hx hb d_Model_lay_157 rfl (lv_at hl 1 rfl) ?_
                      refine va_get (D := (dC, dI)) (ci := 5) (v := .ref (aM 21)) (C := R_Model) (T := T_Model) (N := 30) hx hb hG in_Model hown hK hP 0 rfl rfl 27 (by decide) (hG _ m_641) (fun _ h9 => h9) rfl d_Model_lay_158 ?_
                      refine lv_bipush (v := nI 34) hx hb d_Model_lay_161 (by decide) ?_
                      refine lv_bipush (v := nI 13) hx hb d_Model_lay_163 (by decide) ?_
                      refine lv_iload hx hb d_Model_lay_165 (lv_at hl 7 rfl) ?_
                      refine hw_iadd hx hb d_Model_lay_167 ?_
                      refine hw_imul hx hb d_Model_lay_168 ?_
                      refine lv_iconst (v := nI 1) hx hb d_Model_lay_169 (by decide) ?_
                      refine hw_iadd hx hb d_Model_lay_170 ?_
                      refine lv_iload hx hb d_Model_lay_171 (lv_at hl 6 rfl) ?_
                      refine hw_iadd hx hb d_Model_lay_173 ?_
                      refine lv_aload_n hx hb d_Model_lay_174 rfl (lv_at hl 1 rfl) ?_
                      refine va_get (D := (dC, dI)) (ci := 5) (v := .ref (aM 21)) (C := R_Model) (T := T_Model) (N := 30) hx hb hG in_Model hown hK hP 0 rfl rfl 27 (by decide) (hG _ m_641) (fun _ h9 => h9) rfl d_Model_lay_175 ?_
                      refine lv_iload hx hb d_Model_lay_178 (lv_at hl 0 rfl) ?_
                      refine hw_lald (f := (vp_updL LM14_95 (((34 * (1 + x6_36)) + 13) + x7_95) y153)) hx hb hK hP 21 1 rfl rfl (by decide) (by omega) d_Model_lay_180 ?_
                      refine lv_lneg hx hb d_Model_lay_181 ?_
                      refine hw_last (f := (vp_updL LM14_95 (((34 * (1 + x6_36)) + 13) + x7_95) y153)) hx hb hK hP hD hS 21 1 rfl rfl (by decide) (by omega) d_Model_lay_182 (fun H locs hP hD hS => ?_)
                      have hP : va_P (dC, dI) vwCl (w_M cI cJ cZ aM VM0 VM1 VM2 VM3 VM4 VM5 WM0 NM0 NM1 NM2 LM0 LM1 LM2 LM3 LM4 LM5 LM6 LM7 LM8 LM9 LM10 LM11 LM12 (vp_updL LM13_95 (((34 * (1 + x6_36)) + 13) + x7_95) 1000000000000) (vp_updL (vp_updL LM14_95 (((34 * (1 + x6_36)) + 13) + x7_95) y153) (((34 * (13 + x7_95)) + 1) + x6_36) (-((vp_updL LM14_95 (((34 * (1 + x6_36)) + 13) + x7_95) y153) (((34 * (1 + x6_36)) + 13) + x7_95)))) LM15 IM0 IM1 IM2 IM3) H := hP
                      have hD : va_D A (w_M cI cJ cZ aM VM0 VM1 VM2 VM3 VM4 VM5 WM0 NM0 NM1 NM2 LM0 LM1 LM2 LM3 LM4 LM5 LM6 LM7 LM8 LM9 LM10 LM11 LM12 (vp_updL LM13_95 (((34 * (1 + x6_36)) + 13) + x7_95) 1000000000000) (vp_updL (vp_updL LM14_95 (((34 * (1 + x6_36)) + 13) + x7_95) y153) (((34 * (13 + x7_95)) + 1) + x6_36) (-((vp_updL LM14_95 (((34 * (1 + x6_36)) + 13) + x7_95) y153) (((34 * (1 + x6_36)) + 13) + x7_95)))) LM15 IM0 IM1 IM2 IM3) := hD
                      refine lv_iinc (v := nI (x7_95 + 1)) (lv' := [(7, .int (nI (x7_95 + 1))), (8, .int (nI (((34 * (1 + x6_36)) + 13) + x7_95))), (0, .ref (aM 0)), (1, .int x1), (2, .int x2), (3, .long x3), (5, .int x5), (6, .int (nI x6_36))]) hx hb d_Model_lay_183 hl (k := 7) rfl (hw_inc _ 1) (by decide) rfl (fun ls hl => ?_)
                      refine lv_goto (tgt := 95) hx hb d_Model_lay_186 (by decide) ?_
                      rw [hrec_95] at hR
                      exact ih_95 (x7_95 + 1) (vp_updL LM13_95 (((34 * (1 + x6_36)) + 13) + x7_95) 1000000000000) (vp_updL (vp_updL LM14_95 (((34 * (1 + x6_36)) + 13) + x7_95) y153) (((34 * (13 + x7_95)) + 1) + x6_36) (-((vp_updL LM14_95 (((34 * (1 + x6_36)) + 13) + x7_95) y153) (((34 * (1 + x6_36)) + 13) + x7_95)))) (by first | assumption | omega | exact hw_upb (by assumption) (by omega)) (by omega) H locs hP hD hS ls (lv_sub hl [2, 3, 4, 5, 6, 7, 0] rfl) hR
              exact L_95 9 0 (vp_updL LM13_36 (1 + x6_36) (y76 - 1)) LM14_36 (by first | assumption | omega | exact hw_upb (by assumption) (by omega)) (by omega) H locs hP hD hS ls (lv_sub hl [1, 2, 3, 4, 5, 6, 0] rfl) hR
          · replace hR := (if_neg c64).symm.trans hR
            refine lv_ldc2 (v := 1000000000000) hx hb hown (hG _ m_613) d_Model_lay_67 ?_
            refine lv_goto (tgt := 91) hx hb d_Model_lay_70 (by decide) ?_
            refine hw_last (f := LM13_36) hx hb hK hP hD hS 20 1 rfl rfl (by decide) (by omega) d_Model_lay_91 (fun H locs hP hD hS => ?_)
            have hP : va_P (dC, dI) vwCl (w_M cI cJ cZ aM VM0 VM1 VM2 VM3 VM4 VM5 WM0 NM0 NM1 NM2 LM0 LM1 LM2 LM3 LM4 LM5 LM6 LM7 LM8 LM9 LM10 LM11 LM12 (vp_updL LM13_36 (1 + x6_36) 1000000000000) LM14_36 LM15 IM0 IM1 IM2 IM3) H := hP
            have hD : va_D A (w_M cI cJ cZ aM VM0 VM1 VM2 VM3 VM4 VM5 WM0 NM0 NM1 NM2 LM0 LM1 LM2 LM3 LM4 LM5 LM6 LM7 LM8 LM9 LM10 LM11 LM12 (vp_updL LM13_36 (1 + x6_36) 1000000000000) LM14_36 LM15 IM0 IM1 IM2 IM3) := hD
            refine lv_iconst (v := nI 0) hx hb d_Model_lay_92 (by decide) ?_
            refine lv_istore (lv' := [(7, .int (nI 0)), (0, .ref (aM 0)), (1, .int x1), (2, .int x2), (3, .long x3), (5, .int x5), (6, .int (nI x6_36))]) hx hb d_Model_lay_93 hl (by decide) rfl (fun ls hl => ?_)
            obtain ⟨k_95, hk_95, hR⟩ : ∃ k, (f_Model_lay_x95 rec_36 x6_36) = k ∧ f_Model_lay_h95 VM2 VM1 NM0 NM1 NM2 IM0 x6_36 VM3 LM1 LM3 LM6 LM7 LM8 LM9 LM10 IM1 x5 k 9 0 (vp_updL LM13_36 (1 + x6_36) 1000000000000) LM14_36 = r0 := ⟨_, rfl, hR⟩
            have X_95 : ∀ (x7_95 : Nat) (LM13_95 : Nat → Int64) (LM14_95 : Nat → Int64) (hi : x7_95 ≤ VM2) (H : Heap) (locs : List Loc) (hP : va_P (dC, dI) vwCl (w_M cI cJ cZ aM VM0 VM1 VM2 VM3 VM4 VM5 WM0 NM0 NM1 NM2 LM0 LM1 LM2 LM3 LM4 LM5 LM6 LM7 LM8 LM9 LM10 LM11 LM12 LM13_95 LM14_95 LM15 IM0 IM1 IM2 IM3) H) (hD : va_D A (w_M cI cJ cZ aM VM0 VM1 VM2 VM3 VM4 VM5 WM0 NM0 NM1 NM2 LM0 LM1 LM2 LM3 LM4 LM5 LM6 LM7 LM8 LM9 LM10 LM11 LM12 LM13_95 LM14_95 LM15 IM0 IM1 IM2 IM3)) (hS : va_S A s.heap H locs) (ls : Array Slot) (hl : lv_has ls 9 [(0, .ref (aM 0)), (1, .int x1), (2, .int x2), (3, .long x3), (5, .int x5), (6, .int (nI x6_36)), (7, .int (nI x7_95))]) (hR : k_95 x7_95 LM13_95 LM14_95 = r0), W p l e (headSpec u_Model_lay ({ frames := 2, cells := 0, slots := 0, locals := 57 })).room s m ([.ref (aM 0), .int x1, .int x2, .long x3, .int x5]).toArray below meth c H locs 0 0 (hh_Zv below (dC, dI) vwCl [(cI, .int), (cJ, .long), (cZ, .boolean)] A (w_M cI cJ cZ aM VM0 VM1 VM2 VM3 VM4 VM5 WM0 NM0 NM1 NM2 LM0 LM1 LM2 LM3 LM4 LM5 LM6 LM7 LM8 LM9 LM10 LM11 LM12 r0.1 r0.2 LM15 IM0 IM1 IM2 IM3) ([.ref (aM 0), .int x1, .int x2, .long x3, .int x5]).toArray s) (F0 m 189 ls []) := by
              intro x7_95 LM13_95 LM14_95 hi H locs hP hD hS ls hl hR
              rw [← hk_95] at hR
              unfold f_Model_lay_x95 at hR
              refine lv_iinc (v := nI (x6_36 + 1)) (lv' := [(6, .int (nI (x6_36 + 1))), (0, .ref (aM 0)), (1, .int x1), (2, .int x2), (3, .long x3), (5, .int x5), (7, .int (nI x7_95))]) hx hb d_Model_lay_189 hl (k := 5) rfl (hw_inc _ 1) (by decide) rfl (fun ls hl => ?_)
              refine lv_goto (tgt := 36) hx hb d_Model_lay_192 (by decide) ?_
              rw [hrec_36] at hR
              exact ih_36 (x6_36 + 1) LM13_95 LM14_95 (by first | assumption | omega | exact hw_upb (by assumption) (by omega)) (by omega) H locs hP hD hS ls (lv_sub hl [1, 2, 3, 4, 5, 0] rfl) hR
            have L_95 : ∀ (n : Nat) (x7_95 : Nat) (LM13_95 : Nat → Int64) (LM14_95 : Nat → Int64) (hi : x7_95 ≤ VM2) (hfu : VM2 - x7_95 < n) (H : Heap) (locs : List Loc) (hP : va_P (dC, dI) vwCl (w_M cI cJ cZ aM VM0 VM1 VM2 VM3 VM4 VM5 WM0 NM0 NM1 NM2 LM0 LM1 LM2 LM3 LM4 LM5 LM6 LM7 LM8 LM9 LM10 LM11 LM12 LM13_95 LM14_95 LM15 IM0 IM1 IM2 IM3) H) (hD : va_D A (w_M cI cJ cZ aM VM0 VM1 VM2 VM3 VM4 VM5 WM0 NM0 NM1 NM2 LM0 LM1 LM2 LM3 LM4 LM5 LM6 LM7 LM8 LM9 LM10 LM11 LM12 LM13_95 LM14_95 LM15 IM0 IM1 IM2 IM3)) (hS : va_S A s.heap H locs) (ls : Array Slot) (hl : lv_has ls 9 [(0, .ref (aM 0)), (1, .int x1), (2, .int x2), (3, .long x3), (5, .int x5), (6, .int (nI x6_36)), (7, .int (nI x7_95))]) (hR : f_Model_lay_h95 VM2 VM1 NM0 NM1 NM2 IM0 x6_36 VM3 LM1 LM3 LM6 LM7 LM8 LM9 LM10 IM1 x5 k_95 n x7_95 LM13_95 LM14_95 = r0), W p l e (headSpec u_Model_lay ({ frames := 2, cells := 0, slots := 0, locals := 57 })).room s m ([.ref (aM 0), .int x1, .int x2, .long x3, .int x5]).toArray below meth c H locs 0 0 (hh_Zv below (dC, dI) vwCl [(cI, .int), (cJ, .long), (cZ, .boolean)] A (w_M cI cJ cZ aM VM0 VM1 VM2 VM3 VM4 VM5 WM0 NM0 NM1 NM2 LM0 LM1 LM2 LM3 LM4 LM5 LM6 LM7 LM8 LM9 LM10 LM11 LM12 r0.1 r0.2 LM15 IM0 IM1 IM2 IM3) ([.ref (aM 0), .int x1, .int x2, .long x3, .int x5]).toArray s) (F0 m 95 ls []) := by
              intro n
              induction n with
              | zero =>
                intro x7_95 LM13_95 LM14_95 hi hfu H locs hP hD hS ls hl hR
                exact absurd hfu (Nat.not_lt_zero _)
              | succ n ih_95 =>
                intro x7_95 LM13_95 LM14_95 hi hfu H locs hP hD hS ls hl hR
                rw [f_Model_lay_h95] at hR
                obtain ⟨rec_95, hrec_95, hR⟩ : ∃ r, r = _ ∧ f_Model_lay_h95B VM2 VM1 NM0 NM1 NM2 IM0 x6_36 VM3 LM1 LM3 LM6 LM7 LM8 LM9 LM10 IM1 x5 k_95 r x7_95 LM13_95 LM14_95 = r0 := ⟨_, rfl, hR⟩
                unfold f_Model_lay_h95B at hR
                refine lv_iload hx hb d_Model_lay_95 (lv_at hl 6 rfl) ?_
                refine lv_aload_n hx hb d_Model_lay_97 rfl (lv_at hl 0 rfl) ?_
                refine va_get (D := (dC, dI)) (ci := 5) (v := .int (nI VM2)) (C := R_Model) (T := T_Model) (N := 30) hx hb hG in_Model hown hK hP 0 rfl rfl 6 (by decide) (hG _ m_620) (fun _ h9 => h9) rfl d_Model_lay_98 ?_
                refine hw_icmp_ge (tgt := 189) hx hb d_Model_lay_101 (by decide) (by omega) (by omega) (fun c101 => ?_) (fun c101 => ?_)
                · replace hR := (if_pos c101).symm.trans hR
                  exact X_95 x7_95 LM13_95 LM14_95 (by first | assumption | omega | exact hw_upb (by assumption) (by omega)) H locs hP hD hS ls (lv_sub hl [0, 1, 2, 3, 4, 5, 6] rfl) hR
                · replace hR := (if_neg c101).symm.trans hR
                  refine lv_aload_n hx hb d_Model_lay_104 rfl (lv_at hl 0 rfl) ?_
                  refine lv_iload hx hb d_Model_lay_105 (lv_at hl 5 rfl) ?_
                  refine lv_iload hx hb d_Model_lay_107 (lv_at hl 6 rfl) ?_
                  obtain ⟨y109, hy109, hR⟩ := hw_bind hR
                  have hM := c_Model_serves l dC dI cI cJ cZ H.size aM VM0 VM1 VM2 VM3 VM4 VM5 WM0 NM0 NM1 NM2 LM0 LM1 LM2 LM3 LM4 LM5 LM6 LM7 LM8 LM9 LM10 LM11 LM12 LM13_95 LM14_95 LM15 IM0 IM1 IM2 IM3 x6_36 x7_95 (by first | assumption | omega) (by first | assumption | omega) (by first | assumption | omega) (by first | assumption | omega) (by first | assumption | omega) (by first | assumption | omega)
                  rw [hy109] at hM
                  refine hw_callVi (As := [.int (nI x6_36), .int (nI x7_95)]) (rest := []) (wr := ([] : va_W)) ⟨hx, hb, hml, hown, hG⟩ hM (hw_cwV 2 hG m_762 m_764 mp_23 m_7 m_765 rfl rfl (by decide +kernel) ⟨Nat.le_of_ble_eq_true rfl, Nat.le_of_ble_eq_true rfl⟩) hK hP hD hS hA [0, 1, 2, 3, 4, 5, 6, 7, 8, 9, 10, 11, 12, 13, 14, 15, 16, 17, 18, 19, 20, 21, 22, 23] [] rfl rfl (by decide) (by decide) (by decide) (hw_recv hK hP 0 rfl rfl) rfl hl.1 rfl (Nat.le_of_ble_eq_true rfl) d_Model_lay_109 ⟨Nat.le_of_ble_eq_true rfl, Nat.le_of_ble_eq_true rfl⟩ (fun H locs hP hD hS => ?_)
                  have hP : va_P (dC, dI) vwCl (w_M cI cJ cZ aM VM0 VM1 VM2 VM3 VM4 VM5 WM0 NM0 NM1 NM2 LM0 LM1 LM2 LM3 LM4 LM5 LM6 LM7 LM8 LM9 LM10 LM11 LM12 LM13_95 LM14_95 LM15 IM0 IM1 IM2 IM3) H := hP
                  have hD : va_D A (w_M cI cJ cZ aM VM0 VM1 VM2 VM3 VM4 VM5 WM0 NM0 NM1 NM2 LM0 LM1 LM2 LM3 LM4 LM5 LM6 LM7 LM8 LM9 LM10 LM11 LM12 LM13_95 LM14_95 LM15 IM0 IM1 IM2 IM3) := hD
                  refine lv_if_eq (tgt := 183) hx hb d_Model_lay_112 (by decide) (fun c112 => ?_) (fun c112 => ?_)
                  · replace hR := (if_pos c112).symm.trans hR
                    refine lv_iinc (v := nI (x7_95 + 1)) (lv' := [(7, .int (nI (x7_95 + 1))), (0, .ref (aM 0)), (1, .int x1), (2, .int x2), (3, .long x3), (5, .int x5), (6, .int (nI x6_36))]) hx hb d_Model_lay_183 hl (k := 6) rfl (hw_inc _ 1) (by decide) rfl (fun ls hl => ?_)
                    refine lv_goto (tgt := 95) hx hb d_Model_lay_186 (by decide) ?_
                    rw [hrec_95] at hR
                    exact ih_95 (x7_95 + 1) LM13_95 LM14_95 (by first | assumption | omega | exact hw_upb (by assumption) (by omega)) (by omega) H locs hP hD hS ls (lv_sub hl [1, 2, 3, 4, 5, 6, 0] rfl) hR
                  · replace hR := (if_neg c112).symm.trans hR
                    refine lv_bipush (v := nI 34) hx hb d_Model_lay_115 (by decide) ?_
                    refine lv_iconst (v := nI 1) hx hb d_Model_lay_117 (by decide) ?_
                    refine lv_iload hx hb d_Model_lay_118 (lv_at hl 5 rfl) ?_
                    refine hw_iadd hx hb d_Model_lay_120 ?_
                    refine hw_imul hx hb d_Model_lay_121 ?_
                    refine lv_bipush (v := nI 13) hx hb d_Model_lay_122 (by decide) ?_
                    refine hw_iadd hx hb d_Model_lay_124 ?_
                    refine lv_iload hx hb d_Model_lay_125 (lv_at hl 6 rfl) ?_
                    refine hw_iadd hx hb d_Model_lay_127 ?_
                    refine lv_istore (lv' := [(8, .int (nI (((34 * (1 + x6_36)) + 13) + x7_95))), (0, .ref (aM 0)), (1, .int x1), (2, .int x2), (3, .long x3), (5, .int x5), (6, .int (nI x6_36)), (7, .int (nI x7_95))]) hx hb d_Model_lay_128 hl (by decide) rfl (fun ls hl => ?_)
                    refine lv_aload_n hx hb d_Model_lay_130 rfl (lv_at hl 1 rfl) ?_
                    refine va_get (D := (dC, dI)) (ci := 5) (v := .ref (aM 20)) (C := R_Model) (T := T_Model) (N := 30) hx hb hG in_Model hown hK hP 0 rfl rfl 26 (by decide) (hG _ m_640) (fun _ h9 => h9) rfl d_Model_lay_131 ?_
                    refine lv_iload hx hb d_Model_lay_134 (lv_at hl 0 rfl) ?_
                    refine lv_ldc2 (v := 1000000000000) hx hb hown (hG _ m_613) d_Model_lay_136 ?_
                    refine hw_last (f := LM13_95) hx hb hK hP hD hS 20 1 rfl rfl (by decide) (by omega) d_Model_lay_139 (fun H locs hP hD hS => ?_)
                    have hP : va_P (dC, dI) vwCl (w_M cI cJ cZ aM VM0 VM1 VM2 VM3 VM4 VM5 WM0 NM0 NM1 NM2 LM0 LM1 LM2 LM3 LM4 LM5 LM6 LM7 LM8 LM9 LM10 LM11 LM12 (vp_updL LM13_95 (((34 * (1 + x6_36)) + 13) + x7_95) 1000000000000) LM14_95 LM15 IM0 IM1 IM2 IM3) H := hP
                    have hD : va_D A (w_M cI cJ cZ aM VM0 VM1 VM2 VM3 VM4 VM5 WM0 NM0 NM1 NM2 LM0 LM1 LM2 LM3 LM4 LM5 LM6 LM7 LM8 LM9 LM10 LM11 LM12 (vp_updL LM13_95 (((34 * (1 + x6_36)) + 13) + x7_95) 1000000000000) LM14_95 LM15 IM0 IM1 IM2 IM3) := hD
                    refine lv_aload_n hx hb d_Model_lay_140 rfl (lv_at hl 1 rfl) ?_
                    refine va_get (D := (dC, dI)) (ci := 5) (v := .ref (aM 21)) (C := R_Model) (T := T_Model) (N := 30) hx hb hG in_Model hown hK hP 0 rfl rfl 27 (by decide) (hG _ m_641) (fun _ h9 => h9) rfl d_Model_lay_141 ?_
                    refine lv_iload hx hb d_Model_lay_144 (lv_at hl 0 rfl) ?_
                    refine lv_aload_n hx hb d_Model_lay_146 rfl (lv_at hl 1 rfl) ?_
                    refine lv_iload hx hb d_Model_lay_147 (lv_at hl 6 rfl) ?_
                    refine lv_iload hx hb d_Model_lay_149 (lv_at hl 7 rfl) ?_
                    refine lv_iload hx hb d_Model_lay_151 (lv_at hl 5 rfl) ?_
                    obtain ⟨y153, hy153, hR⟩ := hw_bind hR
                    have hM := c_Model_unit l dC dI cI cJ cZ H.size aM VM0 VM1 VM2 VM3 VM4 VM5 WM0 NM0 NM1 NM2 LM0 LM1 LM2 LM3 LM4 LM5 LM6 LM7 LM8 LM9 LM10 LM11 LM12 (vp_updL LM13_95 (((34 * (1 + x6_36)) + 13) + x7_95) 1000000000000) LM14_95 LM15 IM0 IM1 IM2 IM3 x6_36 x7_95 x5 (by first | assumption | omega) (by first | assumption | omega) (by first | assumption | omega) (by first | assumption | omega) (by first | assumption | omega) (by first | assumption | omega)
                    rw [hy153] at hM
                    refine hw_callVl (As := [.int (nI x6_36), .int (nI x7_95), .int x5]) (rest := [.int (nI (((34 * (1 + x6_36)) + 13) + x7_95)), .ref (aM 21)]) (wr := ([] : va_W)) ⟨hx, hb, hml, hown, hG⟩ hM (hw_cwV 3 hG m_766 m_768 mp_24 m_7 m_769 rfl rfl (by decide +kernel) ⟨Nat.le_of_ble_eq_true rfl, Nat.le_of_ble_eq_true rfl⟩) hK hP hD hS hA [0, 1, 2, 3, 4, 5, 6, 7, 8, 9, 10, 11, 12, 13, 14, 15, 16, 17, 18, 19, 20, 21, 22, 23] [] rfl rfl (by decide) (by decide) (by decide) (hw_recv hK hP 0 rfl rfl) rfl hl.1 rfl (Nat.le_of_ble_eq_true rfl) d_Model_lay_153 ⟨Nat.le_of_ble_eq_true rfl, Nat.le_of_ble_eq_true rfl⟩ (fun H locs hP hD hS => ?_)
                    have hP : va_P (dC, dI) vwCl (w_M cI cJ cZ aM VM0 VM1 VM2 VM3 VM4 VM5 WM0 NM0 NM1 NM2 LM0 LM1 LM2 LM3 LM4 LM5 LM6 LM7 LM8 LM9 LM10 LM11 LM12 (vp_updL LM13_95 (((34 * (1 + x6_36)) + 13) + x7_95) 1000000000000) LM14_95 LM15 IM0 IM1 IM2 IM3) H := hP
                    have hD : va_D A (w_M cI cJ cZ aM VM0 VM1 VM2 VM3 VM4 VM5 WM0 NM0 NM1 NM2 LM0 LM1 LM2 LM3 LM4 LM5 LM6 LM7 LM8 LM9 LM10 LM11 LM12 (vp_updL LM13_95 (((34 * (1 + x6_36)) + 13) + x7_95) 1000000000000) LM14_95 LM15 IM0 IM1 IM2 IM3) := hD
                    refine hw_last (f := LM14_95) hx hb hK hP hD hS 21 1 rfl rfl (by decide) (by omega) d_Model_lay_156 (fun H locs hP hD hS => ?_)
                    have hP : va_P (dC, dI) vwCl (w_M cI cJ cZ aM VM0 VM1 VM2 VM3 VM4 VM5 WM0 NM0 NM1 NM2 LM0 LM1 LM2 LM3 LM4 LM5 LM6 LM7 LM8 LM9 LM10 LM11 LM12 (vp_updL LM13_95 (((34 * (1 + x6_36)) + 13) + x7_95) 1000000000000) (vp_updL LM14_95 (((34 * (1 + x6_36)) + 13) + x7_95) y153) LM15 IM0 IM1 IM2 IM3) H := hP
                    have hD : va_D A (w_M cI cJ cZ aM VM0 VM1 VM2 VM3 VM4 VM5 WM0 NM0 NM1 NM2 LM0 LM1 LM2 LM3 LM4 LM5 LM6 LM7 LM8 LM9 LM10 LM11 LM12 (vp_updL LM13_95 (((34 * (1 + x6_36)) + 13) + x7_95) 1000000000000) (vp_updL LM14_95 (((34 * (1 + x6_36)) + 13) + x7_95) y153) LM15 IM0 IM1 IM2 IM3) := hD
                    refine lv_aload_n hx hb d_Model_lay_157 rfl (lv_at hl 1 rfl) ?_
                    refine va_get (D := (dC, dI)) (ci := 5) (v := .ref (aM 21)) (C := R_Model) (T := T_Model) (N := 30) hx hb hG in_Model hown hK hP 0 rfl rfl 27 (by decide) (hG _ m_641) (fun _ h9 => h9) rfl d_Model_lay_158 ?_
                    refine lv_bipush (v := nI 34) hx hb d_Model_lay_161 (by decide) ?_
                    refine lv_bipush (v := nI 13) hx hb d_Model_lay_163 (by decide) ?_
                    refine lv_iload hx hb d_Model_lay_165 (lv_at hl 7 rfl) ?_
                    refine hw_iadd hx hb d_Model_lay_167 ?_
                    refine hw_imul hx hb d_Model_lay_168 ?_
                    refine lv_iconst (v := nI 1) hx hb d_Model_lay_169 (by decide) ?_
                    refine hw_iadd hx hb d_Model_lay_170 ?_
                    refine lv_iload hx hb d_Model_lay_171 (lv_at hl 6 rfl) ?_
                    refine hw_iadd hx hb d_Model_lay_173 ?_
                    refine lv_aload_n hx hb d_Model_lay_174 rfl (lv_at hl 1 rfl) ?_
                    refine va_get (D := (dC, dI)) (ci := 5) (v := .ref (aM 21)) (C := R_Model) (T := T_Model) (N := 30) hx hb hG in_Model hown hK hP 0 rfl rfl 27 (by decide) (hG _ m_641) (fun _ h9 => h9) rfl d_Model_lay_175 ?_
                    refine lv_iload hx hb d_Model_lay_178 (lv_at hl 0 rfl) ?_
                    refine hw_lald (f := (vp_updL LM14_95 (((34 * (1 + x6_36)) + 13) + x7_95) y153)) hx hb hK hP 21 1 rfl rfl (by decide) (by omega) d_Model_lay_180 ?_
                    refine lv_lneg hx hb d_Model_lay_181 ?_
                    refine hw_last (f := (vp_updL LM14_95 (((34 * (1 + x6_36)) + 13) + x7_95) y153)) hx hb hK hP hD hS 21 1 rfl rfl (by decide) (by omega) d_Model_lay_182 (fun H locs hP hD hS => ?_)
                    have hP : va_P (dC, dI) vwCl (w_M cI cJ cZ aM VM0 VM1 VM2 VM3 VM4 VM5 WM0 NM0 NM1 NM2 LM0 LM1 LM2 LM3 LM4 LM5 LM6 LM7 LM8 LM9 LM10 LM11 LM12 (vp_updL LM13_95 (((34 * (1 + x6_36)) + 13) + x7_95) 1000000000000) (vp_updL (vp_updL LM14_95 (((34 * (1 + x6_36)) + 13) + x7_95) y153) (((34 * (13 + x7_95)) + 1) + x6_36) (-((vp_updL LM14_95 (((34 * (1 + x6_36)) + 13) + x7_95) y153) (((34 * (1 + x6_36)) + 13) + x7_95)))) LM15 IM0 IM1 IM2 IM3) H := hP
                    have hD : va_D A (w_M cI cJ cZ aM VM0 VM1 VM2 VM3 VM4 VM5 WM0 NM0 NM1 NM2 LM0 LM1 LM2 LM3 LM4 LM5 LM6 LM7 LM8 LM9 LM10 LM11 LM12 (vp_updL LM13_95 (((34 * (1 + x6_36)) + 13) + x7_95) 1000000000000) (vp_updL (vp_updL LM14_95 (((34 * (1 + x6_36)) + 13) + x7_95) y153) (((34 * (13 + x7_95)) + 1) + x6_36) (-((vp_updL LM14_95 (((34 * (1 + x6_36)) + 13) + x7_95) y153) (((34 * (1 + x6_36)) + 13) + x7_95)))) LM15 IM0 IM1 IM2 IM3) := hD
                    refine lv_iinc (v := nI (x7_95 + 1)) (lv' := [(7, .int (nI (x7_95 + 1))), (8, .int (nI (((34 * (1 + x6_36)) + 13) + x7_95))), (0, .ref (aM 0)), (1, .int x1), (2, .int x2), (3, .long x3), (5, .int x5), (6, .int (nI x6_36))]) hx hb d_Model_lay_183 hl (k := 7) rfl (hw_inc _ 1) (by decide) rfl (fun ls hl => ?_)
                    refine lv_goto (tgt := 95) hx hb d_Model_lay_186 (by decide) ?_
                    rw [hrec_95] at hR
                    exact ih_95 (x7_95 + 1) (vp_updL LM13_95 (((34 * (1 + x6_36)) + 13) + x7_95) 1000000000000) (vp_updL (vp_updL LM14_95 (((34 * (1 + x6_36)) + 13) + x7_95) y153) (((34 * (13 + x7_95)) + 1) + x6_36) (-((vp_updL LM14_95 (((34 * (1 + x6_36)) + 13) + x7_95) y153) (((34 * (1 + x6_36)) + 13) + x7_95)))) (by first | assumption | omega | exact hw_upb (by assumption) (by omega)) (by omega) H locs hP hD hS ls (lv_sub hl [2, 3, 4, 5, 6, 7, 0] rfl) hR
            exact L_95 9 0 (vp_updL LM13_36 (1 + x6_36) 1000000000000) LM14_36 (by first | assumption | omega | exact hw_upb (by assumption) (by omega)) (by omega) H locs hP hD hS ls (lv_sub hl [1, 2, 3, 4, 5, 6, 0] rfl) hR
    exact L_36 13 0 LM13_3 LM14_3 (by first | assumption | omega | exact hw_upb (by assumption) (by omega)) (by omega) H locs hP hD hS ls (lv_sub hl [1, 2, 3, 4, 5, 0] rfl) hR
  have L_3 : ∀ (n : Nat) (x6_3 : Nat) (LM13_3 : Nat → Int64) (LM14_3 : Nat → Int64) (hi : x6_3 ≤ 1156) (hfu : 1156 - x6_3 < n) (H : Heap) (locs : List Loc) (hP : va_P (dC, dI) vwCl (w_M cI cJ cZ aM VM0 VM1 VM2 VM3 VM4 VM5 WM0 NM0 NM1 NM2 LM0 LM1 LM2 LM3 LM4 LM5 LM6 LM7 LM8 LM9 LM10 LM11 LM12 LM13_3 LM14_3 LM15 IM0 IM1 IM2 IM3) H) (hD : va_D A (w_M cI cJ cZ aM VM0 VM1 VM2 VM3 VM4 VM5 WM0 NM0 NM1 NM2 LM0 LM1 LM2 LM3 LM4 LM5 LM6 LM7 LM8 LM9 LM10 LM11 LM12 LM13_3 LM14_3 LM15 IM0 IM1 IM2 IM3)) (hS : va_S A s.heap H locs) (ls : Array Slot) (hl : lv_has ls 9 [(0, .ref (aM 0)), (1, .int x1), (2, .int x2), (3, .long x3), (5, .int x5), (6, .int (nI x6_3))]) (hR : f_Model_lay_h3  k_3 n x6_3 LM13_3 LM14_3 = r0), W p l e (headSpec u_Model_lay ({ frames := 2, cells := 0, slots := 0, locals := 57 })).room s m ([.ref (aM 0), .int x1, .int x2, .long x3, .int x5]).toArray below meth c H locs 0 0 (hh_Zv below (dC, dI) vwCl [(cI, .int), (cJ, .long), (cZ, .boolean)] A (w_M cI cJ cZ aM VM0 VM1 VM2 VM3 VM4 VM5 WM0 NM0 NM1 NM2 LM0 LM1 LM2 LM3 LM4 LM5 LM6 LM7 LM8 LM9 LM10 LM11 LM12 r0.1 r0.2 LM15 IM0 IM1 IM2 IM3) ([.ref (aM 0), .int x1, .int x2, .long x3, .int x5]).toArray s) (F0 m 3 ls []) := by
    intro n
    induction n with
    | zero =>
      intro x6_3 LM13_3 LM14_3 hi hfu H locs hP hD hS ls hl hR
      exact absurd hfu (Nat.not_lt_zero _)
    | succ n ih_3 =>
      intro x6_3 LM13_3 LM14_3 hi hfu H locs hP hD hS ls hl hR
      rw [f_Model_lay_h3] at hR
      obtain ⟨rec_3, hrec_3, hR⟩ : ∃ r, r = _ ∧ f_Model_lay_h3B  k_3 r x6_3 LM13_3 LM14_3 = r0 := ⟨_, rfl, hR⟩
      unfold f_Model_lay_h3B at hR
      refine lv_iload hx hb d_Model_lay_3 (lv_at hl 5 rfl) ?_
      refine lv_sipush (v := nI 1156) hx hb d_Model_lay_5 (by decide) ?_
      refine hw_icmp_ge (tgt := 33) hx hb d_Model_lay_8 (by decide) (by omega) (by omega) (fun c8 => ?_) (fun c8 => ?_)
      · replace hR := (if_pos c8).symm.trans hR
        exact X_3 x6_3 LM13_3 LM14_3 (by first | assumption | omega | exact hw_upb (by assumption) (by omega)) H locs hP hD hS ls (lv_sub hl [0, 1, 2, 3, 4, 5] rfl) hR
      · replace hR := (if_neg c8).symm.trans hR
        refine lv_aload_n hx hb d_Model_lay_11 rfl (lv_at hl 0 rfl) ?_
        refine va_get (D := (dC, dI)) (ci := 5) (v := .ref (aM 20)) (C := R_Model) (T := T_Model) (N := 30) hx hb hG in_Model hown hK hP 0 rfl rfl 26 (by decide) (hG _ m_640) (fun _ h9 => h9) rfl d_Model_lay_12 ?_
        refine lv_iload hx hb d_Model_lay_15 (lv_at hl 5 rfl) ?_
        refine lv_lconst (v := 0) hx hb d_Model_lay_17 (by decide) ?_
        refine hw_last (f := LM13_3) hx hb hK hP hD hS 20 1 rfl rfl (by decide) (by omega) d_Model_lay_18 (fun H locs hP hD hS => ?_)
        have hP : va_P (dC, dI) vwCl (w_M cI cJ cZ aM VM0 VM1 VM2 VM3 VM4 VM5 WM0 NM0 NM1 NM2 LM0 LM1 LM2 LM3 LM4 LM5 LM6 LM7 LM8 LM9 LM10 LM11 LM12 (vp_updL LM13_3 x6_3 0) LM14_3 LM15 IM0 IM1 IM2 IM3) H := hP
        have hD : va_D A (w_M cI cJ cZ aM VM0 VM1 VM2 VM3 VM4 VM5 WM0 NM0 NM1 NM2 LM0 LM1 LM2 LM3 LM4 LM5 LM6 LM7 LM8 LM9 LM10 LM11 LM12 (vp_updL LM13_3 x6_3 0) LM14_3 LM15 IM0 IM1 IM2 IM3) := hD
        refine lv_aload_n hx hb d_Model_lay_19 rfl (lv_at hl 0 rfl) ?_
        refine va_get (D := (dC, dI)) (ci := 5) (v := .ref (aM 21)) (C := R_Model) (T := T_Model) (N := 30) hx hb hG in_Model hown hK hP 0 rfl rfl 27 (by decide) (hG _ m_641) (fun _ h9 => h9) rfl d_Model_lay_20 ?_
        refine lv_iload hx hb d_Model_lay_23 (lv_at hl 5 rfl) ?_
        refine lv_lconst (v := 0) hx hb d_Model_lay_25 (by decide) ?_
        refine hw_last (f := LM14_3) hx hb hK hP hD hS 21 1 rfl rfl (by decide) (by omega) d_Model_lay_26 (fun H locs hP hD hS => ?_)
        have hP : va_P (dC, dI) vwCl (w_M cI cJ cZ aM VM0 VM1 VM2 VM3 VM4 VM5 WM0 NM0 NM1 NM2 LM0 LM1 LM2 LM3 LM4 LM5 LM6 LM7 LM8 LM9 LM10 LM11 LM12 (vp_updL LM13_3 x6_3 0) (vp_updL LM14_3 x6_3 0) LM15 IM0 IM1 IM2 IM3) H := hP
        have hD : va_D A (w_M cI cJ cZ aM VM0 VM1 VM2 VM3 VM4 VM5 WM0 NM0 NM1 NM2 LM0 LM1 LM2 LM3 LM4 LM5 LM6 LM7 LM8 LM9 LM10 LM11 LM12 (vp_updL LM13_3 x6_3 0) (vp_updL LM14_3 x6_3 0) LM15 IM0 IM1 IM2 IM3) := hD
        refine lv_iinc (v := nI (x6_3 + 1)) (lv' := [(6, .int (nI (x6_3 + 1))), (0, .ref (aM 0)), (1, .int x1), (2, .int x2), (3, .long x3), (5, .int x5)]) hx hb d_Model_lay_27 hl (k := 5) rfl (hw_inc _ 1) (by decide) rfl (fun ls hl => ?_)
        refine lv_goto (tgt := 3) hx hb d_Model_lay_30 (by decide) ?_
        rw [hrec_3] at hR
        exact ih_3 (x6_3 + 1) (vp_updL LM13_3 x6_3 0) (vp_updL LM14_3 x6_3 0) (by first | assumption | omega | exact hw_upb (by assumption) (by omega)) (by omega) H locs hP hD hS ls (lv_sub hl [1, 2, 3, 4, 5, 0] rfl) hR
  exact L_3 1157 0 LM13 LM14 (by first | assumption | omega | exact hw_upb (by assumption) (by omega)) (by omega) H locs hP hD hS ls (lv_sub hl [1, 2, 3, 4, 5, 0] rfl) hR
