abbrev b_Plan_makeFirst : ByteArray := prog_2_method_21_code
def y_Plan_makeFirst : MethodName := ⟨R_Plan, "makeFirst", "()V"⟩
def u_Plan_makeFirst : List Cond := Cond.code y_Plan_makeFirst b_Plan_makeFirst 3 none :: wG
theorem d_Plan_makeFirst_0 : decode b_Plan_makeFirst 0 = .ok (.iconst 0, 1) := by decide +kernel
theorem d_Plan_makeFirst_1 : decode b_Plan_makeFirst 1 = .ok (.istore_n 1, 1) := by decide +kernel
theorem d_Plan_makeFirst_2 : decode b_Plan_makeFirst 2 = .ok (.iload_n 1, 1) := by decide +kernel
theorem d_Plan_makeFirst_3 : decode b_Plan_makeFirst 3 = .ok (.aload_n 0, 1) := by decide +kernel
theorem d_Plan_makeFirst_4 : decode b_Plan_makeFirst 4 = .ok (.getfield 44, 3) := by decide +kernel
theorem d_Plan_makeFirst_7 : decode b_Plan_makeFirst 7 = .ok (.if_icmp .ge 40, 3) := by decide +kernel
theorem d_Plan_makeFirst_10 : decode b_Plan_makeFirst 10 = .ok (.iconst 0, 1) := by decide +kernel
theorem d_Plan_makeFirst_11 : decode b_Plan_makeFirst 11 = .ok (.istore_n 2, 1) := by decide +kernel
theorem d_Plan_makeFirst_12 : decode b_Plan_makeFirst 12 = .ok (.iload_n 2, 1) := by decide +kernel
theorem d_Plan_makeFirst_13 : decode b_Plan_makeFirst 13 = .ok (.aload_n 0, 1) := by decide +kernel
theorem d_Plan_makeFirst_14 : decode b_Plan_makeFirst 14 = .ok (.getfield 48, 3) := by decide +kernel
theorem d_Plan_makeFirst_17 : decode b_Plan_makeFirst 17 = .ok (.if_icmp .ge 24, 3) := by decide +kernel
theorem d_Plan_makeFirst_20 : decode b_Plan_makeFirst 20 = .ok (.aload_n 0, 1) := by decide +kernel
theorem d_Plan_makeFirst_21 : decode b_Plan_makeFirst 21 = .ok (.iload_n 1, 1) := by decide +kernel
theorem d_Plan_makeFirst_22 : decode b_Plan_makeFirst 22 = .ok (.iload_n 2, 1) := by decide +kernel
theorem d_Plan_makeFirst_23 : decode b_Plan_makeFirst 23 = .ok (.invokevirtual 149, 3) := by decide +kernel
theorem d_Plan_makeFirst_26 : decode b_Plan_makeFirst 26 = .ok (.ifCond .eq 9, 3) := by decide +kernel
theorem d_Plan_makeFirst_29 : decode b_Plan_makeFirst 29 = .ok (.aload_n 0, 1) := by decide +kernel
theorem d_Plan_makeFirst_30 : decode b_Plan_makeFirst 30 = .ok (.iload_n 1, 1) := by decide +kernel
theorem d_Plan_makeFirst_31 : decode b_Plan_makeFirst 31 = .ok (.iload_n 2, 1) := by decide +kernel
theorem d_Plan_makeFirst_32 : decode b_Plan_makeFirst 32 = .ok (.invokevirtual 152, 3) := by decide +kernel
theorem d_Plan_makeFirst_35 : decode b_Plan_makeFirst 35 = .ok (.iinc 2 1, 3) := by decide +kernel
theorem d_Plan_makeFirst_38 : decode b_Plan_makeFirst 38 = .ok (.goto (-26), 3) := by decide +kernel
theorem d_Plan_makeFirst_41 : decode b_Plan_makeFirst 41 = .ok (.iinc 1 1, 3) := by decide +kernel
theorem d_Plan_makeFirst_44 : decode b_Plan_makeFirst 44 = .ok (.goto (-42), 3) := by decide +kernel
theorem d_Plan_makeFirst_47 : decode b_Plan_makeFirst 47 = .ok (.return_, 1) := by decide +kernel
abbrev b_Shortage_clear : ByteArray := prog_3_method_3_code
def y_Shortage_clear : MethodName := ⟨R_Shortage, "clear", "()V"⟩
def u_Shortage_clear : List Cond := Cond.code y_Shortage_clear b_Shortage_clear 3 none :: wG
theorem d_Shortage_clear_0 : decode b_Shortage_clear 0 = .ok (.aload_n 0, 1) := by decide +kernel
theorem d_Shortage_clear_1 : decode b_Shortage_clear 1 = .ok (.getfield 15, 3) := by decide +kernel
theorem d_Shortage_clear_4 : decode b_Shortage_clear 4 = .ok (.lconst 0, 1) := by decide +kernel
theorem d_Shortage_clear_5 : decode b_Shortage_clear 5 = .ok (.invokestatic 52, 3) := by decide +kernel
theorem d_Shortage_clear_8 : decode b_Shortage_clear 8 = .ok (.iconst 0, 1) := by decide +kernel
theorem d_Shortage_clear_9 : decode b_Shortage_clear 9 = .ok (.istore_n 1, 1) := by decide +kernel
theorem d_Shortage_clear_10 : decode b_Shortage_clear 10 = .ok (.iload_n 1, 1) := by decide +kernel
theorem d_Shortage_clear_11 : decode b_Shortage_clear 11 = .ok (.aload_n 0, 1) := by decide +kernel
theorem d_Shortage_clear_12 : decode b_Shortage_clear 12 = .ok (.getfield 25, 3) := by decide +kernel
theorem d_Shortage_clear_15 : decode b_Shortage_clear 15 = .ok (.invokevirtual 58, 3) := by decide +kernel
theorem d_Shortage_clear_18 : decode b_Shortage_clear 18 = .ok (.if_icmp .ge 79, 3) := by decide +kernel
theorem d_Shortage_clear_21 : decode b_Shortage_clear 21 = .ok (.aload_n 0, 1) := by decide +kernel
theorem d_Shortage_clear_22 : decode b_Shortage_clear 22 = .ok (.getfield 15, 3) := by decide +kernel
theorem d_Shortage_clear_25 : decode b_Shortage_clear 25 = .ok (.sipush 1088, 3) := by decide +kernel
theorem d_Shortage_clear_28 : decode b_Shortage_clear 28 = .ok (.iload_n 1, 1) := by decide +kernel
theorem d_Shortage_clear_29 : decode b_Shortage_clear 29 = .ok (.iadd, 1) := by decide +kernel
theorem d_Shortage_clear_30 : decode b_Shortage_clear 30 = .ok (.aload_n 0, 1) := by decide +kernel
theorem d_Shortage_clear_31 : decode b_Shortage_clear 31 = .ok (.getfield 25, 3) := by decide +kernel
theorem d_Shortage_clear_34 : decode b_Shortage_clear 34 = .ok (.iload_n 1, 1) := by decide +kernel
theorem d_Shortage_clear_35 : decode b_Shortage_clear 35 = .ok (.invokevirtual 62, 3) := by decide +kernel
theorem d_Shortage_clear_38 : decode b_Shortage_clear 38 = .ok (.lastore, 1) := by decide +kernel
theorem d_Shortage_clear_39 : decode b_Shortage_clear 39 = .ok (.iconst 0, 1) := by decide +kernel
theorem d_Shortage_clear_40 : decode b_Shortage_clear 40 = .ok (.istore_n 2, 1) := by decide +kernel
theorem d_Shortage_clear_41 : decode b_Shortage_clear 41 = .ok (.iload_n 2, 1) := by decide +kernel
theorem d_Shortage_clear_42 : decode b_Shortage_clear 42 = .ok (.aload_n 0, 1) := by decide +kernel
theorem d_Shortage_clear_43 : decode b_Shortage_clear 43 = .ok (.getfield 25, 3) := by decide +kernel
theorem d_Shortage_clear_46 : decode b_Shortage_clear 46 = .ok (.getfield 44, 3) := by decide +kernel
theorem d_Shortage_clear_49 : decode b_Shortage_clear 49 = .ok (.if_icmp .ge 42, 3) := by decide +kernel
theorem d_Shortage_clear_52 : decode b_Shortage_clear 52 = .ok (.aload_n 0, 1) := by decide +kernel
theorem d_Shortage_clear_53 : decode b_Shortage_clear 53 = .ok (.getfield 15, 3) := by decide +kernel
theorem d_Shortage_clear_56 : decode b_Shortage_clear 56 = .ok (.iload_n 1, 1) := by decide +kernel
theorem d_Shortage_clear_57 : decode b_Shortage_clear 57 = .ok (.bipush 34, 2) := by decide +kernel
theorem d_Shortage_clear_59 : decode b_Shortage_clear 59 = .ok (.imul, 1) := by decide +kernel
theorem d_Shortage_clear_60 : decode b_Shortage_clear 60 = .ok (.bipush 12, 2) := by decide +kernel
theorem d_Shortage_clear_62 : decode b_Shortage_clear 62 = .ok (.iadd, 1) := by decide +kernel
theorem d_Shortage_clear_63 : decode b_Shortage_clear 63 = .ok (.iload_n 2, 1) := by decide +kernel
theorem d_Shortage_clear_64 : decode b_Shortage_clear 64 = .ok (.iadd, 1) := by decide +kernel
theorem d_Shortage_clear_65 : decode b_Shortage_clear 65 = .ok (.aload_n 0, 1) := by decide +kernel
theorem d_Shortage_clear_66 : decode b_Shortage_clear 66 = .ok (.getfield 25, 3) := by decide +kernel
theorem d_Shortage_clear_69 : decode b_Shortage_clear 69 = .ok (.iload_n 1, 1) := by decide +kernel
theorem d_Shortage_clear_70 : decode b_Shortage_clear 70 = .ok (.iload_n 2, 1) := by decide +kernel
theorem d_Shortage_clear_71 : decode b_Shortage_clear 71 = .ok (.invokevirtual 66, 3) := by decide +kernel
theorem d_Shortage_clear_74 : decode b_Shortage_clear 74 = .ok (.ifCond .eq 9, 3) := by decide +kernel
theorem d_Shortage_clear_77 : decode b_Shortage_clear 77 = .ok (.ldc2_w 69, 3) := by decide +kernel
theorem d_Shortage_clear_80 : decode b_Shortage_clear 80 = .ok (.goto 4, 3) := by decide +kernel
theorem d_Shortage_clear_83 : decode b_Shortage_clear 83 = .ok (.lconst 0, 1) := by decide +kernel
theorem d_Shortage_clear_84 : decode b_Shortage_clear 84 = .ok (.lastore, 1) := by decide +kernel
theorem d_Shortage_clear_85 : decode b_Shortage_clear 85 = .ok (.iinc 2 1, 3) := by decide +kernel
theorem d_Shortage_clear_88 : decode b_Shortage_clear 88 = .ok (.goto (-47), 3) := by decide +kernel
theorem d_Shortage_clear_91 : decode b_Shortage_clear 91 = .ok (.iinc 1 1, 3) := by decide +kernel
theorem d_Shortage_clear_94 : decode b_Shortage_clear 94 = .ok (.goto (-84), 3) := by decide +kernel
theorem d_Shortage_clear_97 : decode b_Shortage_clear 97 = .ok (.iconst 0, 1) := by decide +kernel
theorem d_Shortage_clear_98 : decode b_Shortage_clear 98 = .ok (.istore_n 1, 1) := by decide +kernel
theorem d_Shortage_clear_99 : decode b_Shortage_clear 99 = .ok (.iload_n 1, 1) := by decide +kernel
theorem d_Shortage_clear_100 : decode b_Shortage_clear 100 = .ok (.aload_n 0, 1) := by decide +kernel
theorem d_Shortage_clear_101 : decode b_Shortage_clear 101 = .ok (.getfield 25, 3) := by decide +kernel
theorem d_Shortage_clear_104 : decode b_Shortage_clear 104 = .ok (.getfield 44, 3) := by decide +kernel
theorem d_Shortage_clear_107 : decode b_Shortage_clear 107 = .ok (.if_icmp .ge 74, 3) := by decide +kernel
theorem d_Shortage_clear_110 : decode b_Shortage_clear 110 = .ok (.bipush 20, 2) := by decide +kernel
theorem d_Shortage_clear_112 : decode b_Shortage_clear 112 = .ok (.aload_n 0, 1) := by decide +kernel
theorem d_Shortage_clear_113 : decode b_Shortage_clear 113 = .ok (.getfield 25, 3) := by decide +kernel
theorem d_Shortage_clear_116 : decode b_Shortage_clear 116 = .ok (.getfield 49, 3) := by decide +kernel
theorem d_Shortage_clear_119 : decode b_Shortage_clear 119 = .ok (.iload_n 1, 1) := by decide +kernel
theorem d_Shortage_clear_120 : decode b_Shortage_clear 120 = .ok (.iaload, 1) := by decide +kernel
theorem d_Shortage_clear_121 : decode b_Shortage_clear 121 = .ok (.iadd, 1) := by decide +kernel
theorem d_Shortage_clear_122 : decode b_Shortage_clear 122 = .ok (.istore_n 2, 1) := by decide +kernel
theorem d_Shortage_clear_123 : decode b_Shortage_clear 123 = .ok (.aload_n 0, 1) := by decide +kernel
theorem d_Shortage_clear_124 : decode b_Shortage_clear 124 = .ok (.getfield 15, 3) := by decide +kernel
theorem d_Shortage_clear_127 : decode b_Shortage_clear 127 = .ok (.bipush 12, 2) := by decide +kernel
theorem d_Shortage_clear_129 : decode b_Shortage_clear 129 = .ok (.iload_n 1, 1) := by decide +kernel
theorem d_Shortage_clear_130 : decode b_Shortage_clear 130 = .ok (.iadd, 1) := by decide +kernel
theorem d_Shortage_clear_131 : decode b_Shortage_clear 131 = .ok (.bipush 34, 2) := by decide +kernel
theorem d_Shortage_clear_133 : decode b_Shortage_clear 133 = .ok (.imul, 1) := by decide +kernel
theorem d_Shortage_clear_134 : decode b_Shortage_clear 134 = .ok (.iload_n 2, 1) := by decide +kernel
theorem d_Shortage_clear_135 : decode b_Shortage_clear 135 = .ok (.iadd, 1) := by decide +kernel
theorem d_Shortage_clear_136 : decode b_Shortage_clear 136 = .ok (.aload_n 0, 1) := by decide +kernel
theorem d_Shortage_clear_137 : decode b_Shortage_clear 137 = .ok (.getfield 25, 3) := by decide +kernel
theorem d_Shortage_clear_140 : decode b_Shortage_clear 140 = .ok (.getfield 71, 3) := by decide +kernel
theorem d_Shortage_clear_143 : decode b_Shortage_clear 143 = .ok (.iload_n 1, 1) := by decide +kernel
theorem d_Shortage_clear_144 : decode b_Shortage_clear 144 = .ok (.laload, 1) := by decide +kernel
theorem d_Shortage_clear_145 : decode b_Shortage_clear 145 = .ok (.lastore, 1) := by decide +kernel
theorem d_Shortage_clear_146 : decode b_Shortage_clear 146 = .ok (.aload_n 0, 1) := by decide +kernel
theorem d_Shortage_clear_147 : decode b_Shortage_clear 147 = .ok (.getfield 15, 3) := by decide +kernel
theorem d_Shortage_clear_150 : decode b_Shortage_clear 150 = .ok (.iload_n 2, 1) := by decide +kernel
theorem d_Shortage_clear_151 : decode b_Shortage_clear 151 = .ok (.bipush 34, 2) := by decide +kernel
theorem d_Shortage_clear_153 : decode b_Shortage_clear 153 = .ok (.imul, 1) := by decide +kernel
theorem d_Shortage_clear_154 : decode b_Shortage_clear 154 = .ok (.bipush 33, 2) := by decide +kernel
theorem d_Shortage_clear_156 : decode b_Shortage_clear 156 = .ok (.iadd, 1) := by decide +kernel
theorem d_Shortage_clear_157 : decode b_Shortage_clear 157 = .ok (.aload_n 0, 1) := by decide +kernel
theorem d_Shortage_clear_158 : decode b_Shortage_clear 158 = .ok (.getfield 25, 3) := by decide +kernel
theorem d_Shortage_clear_161 : decode b_Shortage_clear 161 = .ok (.getfield 74, 3) := by decide +kernel
theorem d_Shortage_clear_164 : decode b_Shortage_clear 164 = .ok (.aload_n 0, 1) := by decide +kernel
theorem d_Shortage_clear_165 : decode b_Shortage_clear 165 = .ok (.getfield 25, 3) := by decide +kernel
theorem d_Shortage_clear_168 : decode b_Shortage_clear 168 = .ok (.getfield 49, 3) := by decide +kernel
theorem d_Shortage_clear_171 : decode b_Shortage_clear 171 = .ok (.iload_n 1, 1) := by decide +kernel
theorem d_Shortage_clear_172 : decode b_Shortage_clear 172 = .ok (.iaload, 1) := by decide +kernel
theorem d_Shortage_clear_173 : decode b_Shortage_clear 173 = .ok (.laload, 1) := by decide +kernel
theorem d_Shortage_clear_174 : decode b_Shortage_clear 174 = .ok (.lastore, 1) := by decide +kernel
theorem d_Shortage_clear_175 : decode b_Shortage_clear 175 = .ok (.iinc 1 1, 3) := by decide +kernel
theorem d_Shortage_clear_178 : decode b_Shortage_clear 178 = .ok (.goto (-79), 3) := by decide +kernel
theorem d_Shortage_clear_181 : decode b_Shortage_clear 181 = .ok (.return_, 1) := by decide +kernel
abbrev b_Shortage_canReach : ByteArray := prog_3_method_4_code
def y_Shortage_canReach : MethodName := ⟨R_Shortage, "canReach", "(II)Z"⟩
def u_Shortage_canReach : List Cond := Cond.code y_Shortage_canReach b_Shortage_canReach 7 (some .boolean) :: wG
theorem d_Shortage_canReach_0 : decode b_Shortage_canReach 0 = .ok (.aload_n 0, 1) := by decide +kernel
theorem d_Shortage_canReach_1 : decode b_Shortage_canReach 1 = .ok (.getfield 19, 3) := by decide +kernel
theorem d_Shortage_canReach_4 : decode b_Shortage_canReach 4 = .ok (.iconst (-1), 1) := by decide +kernel
theorem d_Shortage_canReach_5 : decode b_Shortage_canReach 5 = .ok (.invokestatic 77, 3) := by decide +kernel
theorem d_Shortage_canReach_8 : decode b_Shortage_canReach 8 = .ok (.aload_n 0, 1) := by decide +kernel
theorem d_Shortage_canReach_9 : decode b_Shortage_canReach 9 = .ok (.getfield 19, 3) := by decide +kernel
theorem d_Shortage_canReach_12 : decode b_Shortage_canReach 12 = .ok (.iload_n 1, 1) := by decide +kernel
theorem d_Shortage_canReach_13 : decode b_Shortage_canReach 13 = .ok (.iload_n 1, 1) := by decide +kernel
theorem d_Shortage_canReach_14 : decode b_Shortage_canReach 14 = .ok (.iastore, 1) := by decide +kernel
theorem d_Shortage_canReach_15 : decode b_Shortage_canReach 15 = .ok (.aload_n 0, 1) := by decide +kernel
theorem d_Shortage_canReach_16 : decode b_Shortage_canReach 16 = .ok (.getfield 22, 3) := by decide +kernel
theorem d_Shortage_canReach_19 : decode b_Shortage_canReach 19 = .ok (.iconst 0, 1) := by decide +kernel
theorem d_Shortage_canReach_20 : decode b_Shortage_canReach 20 = .ok (.iload_n 1, 1) := by decide +kernel
theorem d_Shortage_canReach_21 : decode b_Shortage_canReach 21 = .ok (.iastore, 1) := by decide +kernel
theorem d_Shortage_canReach_22 : decode b_Shortage_canReach 22 = .ok (.iconst 1, 1) := by decide +kernel
theorem d_Shortage_canReach_23 : decode b_Shortage_canReach 23 = .ok (.istore_n 3, 1) := by decide +kernel
theorem d_Shortage_canReach_24 : decode b_Shortage_canReach 24 = .ok (.iconst 0, 1) := by decide +kernel
theorem d_Shortage_canReach_25 : decode b_Shortage_canReach 25 = .ok (.istore 4, 2) := by decide +kernel
theorem d_Shortage_canReach_27 : decode b_Shortage_canReach 27 = .ok (.iload 4, 2) := by decide +kernel
theorem d_Shortage_canReach_29 : decode b_Shortage_canReach 29 = .ok (.iload_n 3, 1) := by decide +kernel
theorem d_Shortage_canReach_30 : decode b_Shortage_canReach 30 = .ok (.if_icmp .ge 111, 3) := by decide +kernel
theorem d_Shortage_canReach_33 : decode b_Shortage_canReach 33 = .ok (.iload 4, 2) := by decide +kernel
theorem d_Shortage_canReach_35 : decode b_Shortage_canReach 35 = .ok (.bipush 34, 2) := by decide +kernel
theorem d_Shortage_canReach_37 : decode b_Shortage_canReach 37 = .ok (.if_icmp .ge 104, 3) := by decide +kernel
theorem d_Shortage_canReach_40 : decode b_Shortage_canReach 40 = .ok (.aload_n 0, 1) := by decide +kernel
theorem d_Shortage_canReach_41 : decode b_Shortage_canReach 41 = .ok (.getfield 19, 3) := by decide +kernel
theorem d_Shortage_canReach_44 : decode b_Shortage_canReach 44 = .ok (.iload_n 2, 1) := by decide +kernel
theorem d_Shortage_canReach_45 : decode b_Shortage_canReach 45 = .ok (.iaload, 1) := by decide +kernel
theorem d_Shortage_canReach_46 : decode b_Shortage_canReach 46 = .ok (.iconst (-1), 1) := by decide +kernel
theorem d_Shortage_canReach_47 : decode b_Shortage_canReach 47 = .ok (.if_icmp .ne 94, 3) := by decide +kernel
theorem d_Shortage_canReach_50 : decode b_Shortage_canReach 50 = .ok (.aload_n 0, 1) := by decide +kernel
theorem d_Shortage_canReach_51 : decode b_Shortage_canReach 51 = .ok (.getfield 22, 3) := by decide +kernel
theorem d_Shortage_canReach_54 : decode b_Shortage_canReach 54 = .ok (.iload 4, 2) := by decide +kernel
theorem d_Shortage_canReach_56 : decode b_Shortage_canReach 56 = .ok (.iaload, 1) := by decide +kernel
theorem d_Shortage_canReach_57 : decode b_Shortage_canReach 57 = .ok (.bipush 34, 2) := by decide +kernel
theorem d_Shortage_canReach_59 : decode b_Shortage_canReach 59 = .ok (.imul, 1) := by decide +kernel
theorem d_Shortage_canReach_60 : decode b_Shortage_canReach 60 = .ok (.istore 5, 2) := by decide +kernel
theorem d_Shortage_canReach_62 : decode b_Shortage_canReach 62 = .ok (.iconst 0, 1) := by decide +kernel
theorem d_Shortage_canReach_63 : decode b_Shortage_canReach 63 = .ok (.istore 6, 2) := by decide +kernel
theorem d_Shortage_canReach_65 : decode b_Shortage_canReach 65 = .ok (.iload 6, 2) := by decide +kernel
theorem d_Shortage_canReach_67 : decode b_Shortage_canReach 67 = .ok (.bipush 34, 2) := by decide +kernel
theorem d_Shortage_canReach_69 : decode b_Shortage_canReach 69 = .ok (.if_icmp .ge 66, 3) := by decide +kernel
theorem d_Shortage_canReach_72 : decode b_Shortage_canReach 72 = .ok (.aload_n 0, 1) := by decide +kernel
theorem d_Shortage_canReach_73 : decode b_Shortage_canReach 73 = .ok (.getfield 15, 3) := by decide +kernel
theorem d_Shortage_canReach_76 : decode b_Shortage_canReach 76 = .ok (.iload 5, 2) := by decide +kernel
theorem d_Shortage_canReach_78 : decode b_Shortage_canReach 78 = .ok (.iload 6, 2) := by decide +kernel
theorem d_Shortage_canReach_80 : decode b_Shortage_canReach 80 = .ok (.iadd, 1) := by decide +kernel
theorem d_Shortage_canReach_81 : decode b_Shortage_canReach 81 = .ok (.laload, 1) := by decide +kernel
theorem d_Shortage_canReach_82 : decode b_Shortage_canReach 82 = .ok (.lconst 0, 1) := by decide +kernel
theorem d_Shortage_canReach_83 : decode b_Shortage_canReach 83 = .ok (.lcmp, 1) := by decide +kernel
theorem d_Shortage_canReach_84 : decode b_Shortage_canReach 84 = .ok (.ifCond .le 45, 3) := by decide +kernel
theorem d_Shortage_canReach_87 : decode b_Shortage_canReach 87 = .ok (.aload_n 0, 1) := by decide +kernel
theorem d_Shortage_canReach_88 : decode b_Shortage_canReach 88 = .ok (.getfield 19, 3) := by decide +kernel
theorem d_Shortage_canReach_91 : decode b_Shortage_canReach 91 = .ok (.iload 6, 2) := by decide +kernel
theorem d_Shortage_canReach_93 : decode b_Shortage_canReach 93 = .ok (.iaload, 1) := by decide +kernel
theorem d_Shortage_canReach_94 : decode b_Shortage_canReach 94 = .ok (.iconst (-1), 1) := by decide +kernel
theorem d_Shortage_canReach_95 : decode b_Shortage_canReach 95 = .ok (.if_icmp .ne 34, 3) := by decide +kernel
theorem d_Shortage_canReach_98 : decode b_Shortage_canReach 98 = .ok (.iload_n 3, 1) := by decide +kernel
theorem d_Shortage_canReach_99 : decode b_Shortage_canReach 99 = .ok (.bipush 34, 2) := by decide +kernel
theorem d_Shortage_canReach_101 : decode b_Shortage_canReach 101 = .ok (.if_icmp .ge 28, 3) := by decide +kernel
theorem d_Shortage_canReach_104 : decode b_Shortage_canReach 104 = .ok (.aload_n 0, 1) := by decide +kernel
theorem d_Shortage_canReach_105 : decode b_Shortage_canReach 105 = .ok (.getfield 19, 3) := by decide +kernel
theorem d_Shortage_canReach_108 : decode b_Shortage_canReach 108 = .ok (.iload 6, 2) := by decide +kernel
theorem d_Shortage_canReach_110 : decode b_Shortage_canReach 110 = .ok (.aload_n 0, 1) := by decide +kernel
theorem d_Shortage_canReach_111 : decode b_Shortage_canReach 111 = .ok (.getfield 22, 3) := by decide +kernel
theorem d_Shortage_canReach_114 : decode b_Shortage_canReach 114 = .ok (.iload 4, 2) := by decide +kernel
theorem d_Shortage_canReach_116 : decode b_Shortage_canReach 116 = .ok (.iaload, 1) := by decide +kernel
theorem d_Shortage_canReach_117 : decode b_Shortage_canReach 117 = .ok (.iastore, 1) := by decide +kernel
theorem d_Shortage_canReach_118 : decode b_Shortage_canReach 118 = .ok (.aload_n 0, 1) := by decide +kernel
theorem d_Shortage_canReach_119 : decode b_Shortage_canReach 119 = .ok (.getfield 22, 3) := by decide +kernel
theorem d_Shortage_canReach_122 : decode b_Shortage_canReach 122 = .ok (.iload_n 3, 1) := by decide +kernel
theorem d_Shortage_canReach_123 : decode b_Shortage_canReach 123 = .ok (.iload 6, 2) := by decide +kernel
theorem d_Shortage_canReach_125 : decode b_Shortage_canReach 125 = .ok (.iastore, 1) := by decide +kernel
theorem d_Shortage_canReach_126 : decode b_Shortage_canReach 126 = .ok (.iinc 3 1, 3) := by decide +kernel
theorem d_Shortage_canReach_129 : decode b_Shortage_canReach 129 = .ok (.iinc 6 1, 3) := by decide +kernel
theorem d_Shortage_canReach_132 : decode b_Shortage_canReach 132 = .ok (.goto (-67), 3) := by decide +kernel
theorem d_Shortage_canReach_135 : decode b_Shortage_canReach 135 = .ok (.iinc 4 1, 3) := by decide +kernel
theorem d_Shortage_canReach_138 : decode b_Shortage_canReach 138 = .ok (.goto (-111), 3) := by decide +kernel
theorem d_Shortage_canReach_141 : decode b_Shortage_canReach 141 = .ok (.aload_n 0, 1) := by decide +kernel
theorem d_Shortage_canReach_142 : decode b_Shortage_canReach 142 = .ok (.getfield 19, 3) := by decide +kernel
theorem d_Shortage_canReach_145 : decode b_Shortage_canReach 145 = .ok (.iload_n 2, 1) := by decide +kernel
theorem d_Shortage_canReach_146 : decode b_Shortage_canReach 146 = .ok (.iaload, 1) := by decide +kernel
theorem d_Shortage_canReach_147 : decode b_Shortage_canReach 147 = .ok (.iconst (-1), 1) := by decide +kernel
theorem d_Shortage_canReach_148 : decode b_Shortage_canReach 148 = .ok (.if_icmp .eq 7, 3) := by decide +kernel
theorem d_Shortage_canReach_151 : decode b_Shortage_canReach 151 = .ok (.iconst 1, 1) := by decide +kernel
theorem d_Shortage_canReach_152 : decode b_Shortage_canReach 152 = .ok (.goto 4, 3) := by decide +kernel
theorem d_Shortage_canReach_155 : decode b_Shortage_canReach 155 = .ok (.iconst 0, 1) := by decide +kernel
theorem d_Shortage_canReach_156 : decode b_Shortage_canReach 156 = .ok (.ireturn, 1) := by decide +kernel
abbrev b_Shortage_push : ByteArray := prog_3_method_5_code
def y_Shortage_push : MethodName := ⟨R_Shortage, "push", "()V"⟩
def u_Shortage_push : List Cond := Cond.code y_Shortage_push b_Shortage_push 5 none :: wG
theorem d_Shortage_push_0 : decode b_Shortage_push 0 = .ok (.ldc2_w 69, 3) := by decide +kernel
theorem d_Shortage_push_3 : decode b_Shortage_push 3 = .ok (.lstore_n 1, 1) := by decide +kernel
theorem d_Shortage_push_4 : decode b_Shortage_push 4 = .ok (.bipush 33, 2) := by decide +kernel
theorem d_Shortage_push_6 : decode b_Shortage_push 6 = .ok (.istore_n 3, 1) := by decide +kernel
theorem d_Shortage_push_7 : decode b_Shortage_push 7 = .ok (.iconst 0, 1) := by decide +kernel
theorem d_Shortage_push_8 : decode b_Shortage_push 8 = .ok (.istore 4, 2) := by decide +kernel
theorem d_Shortage_push_10 : decode b_Shortage_push 10 = .ok (.iload 4, 2) := by decide +kernel
theorem d_Shortage_push_12 : decode b_Shortage_push 12 = .ok (.bipush 34, 2) := by decide +kernel
theorem d_Shortage_push_14 : decode b_Shortage_push 14 = .ok (.if_icmp .ge 43, 3) := by decide +kernel
theorem d_Shortage_push_17 : decode b_Shortage_push 17 = .ok (.iload_n 3, 1) := by decide +kernel
theorem d_Shortage_push_18 : decode b_Shortage_push 18 = .ok (.bipush 32, 2) := by decide +kernel
theorem d_Shortage_push_20 : decode b_Shortage_push 20 = .ok (.if_icmp .eq 37, 3) := by decide +kernel
theorem d_Shortage_push_23 : decode b_Shortage_push 23 = .ok (.lload_n 1, 1) := by decide +kernel
theorem d_Shortage_push_24 : decode b_Shortage_push 24 = .ok (.aload_n 0, 1) := by decide +kernel
theorem d_Shortage_push_25 : decode b_Shortage_push 25 = .ok (.getfield 15, 3) := by decide +kernel
theorem d_Shortage_push_28 : decode b_Shortage_push 28 = .ok (.aload_n 0, 1) := by decide +kernel
theorem d_Shortage_push_29 : decode b_Shortage_push 29 = .ok (.getfield 19, 3) := by decide +kernel
theorem d_Shortage_push_32 : decode b_Shortage_push 32 = .ok (.iload_n 3, 1) := by decide +kernel
theorem d_Shortage_push_33 : decode b_Shortage_push 33 = .ok (.iaload, 1) := by decide +kernel
theorem d_Shortage_push_34 : decode b_Shortage_push 34 = .ok (.bipush 34, 2) := by decide +kernel
theorem d_Shortage_push_36 : decode b_Shortage_push 36 = .ok (.imul, 1) := by decide +kernel
theorem d_Shortage_push_37 : decode b_Shortage_push 37 = .ok (.iload_n 3, 1) := by decide +kernel
theorem d_Shortage_push_38 : decode b_Shortage_push 38 = .ok (.iadd, 1) := by decide +kernel
theorem d_Shortage_push_39 : decode b_Shortage_push 39 = .ok (.laload, 1) := by decide +kernel
theorem d_Shortage_push_40 : decode b_Shortage_push 40 = .ok (.invokestatic 80, 3) := by decide +kernel
theorem d_Shortage_push_43 : decode b_Shortage_push 43 = .ok (.lstore_n 1, 1) := by decide +kernel
theorem d_Shortage_push_44 : decode b_Shortage_push 44 = .ok (.aload_n 0, 1) := by decide +kernel
theorem d_Shortage_push_45 : decode b_Shortage_push 45 = .ok (.getfield 19, 3) := by decide +kernel
theorem d_Shortage_push_48 : decode b_Shortage_push 48 = .ok (.iload_n 3, 1) := by decide +kernel
theorem d_Shortage_push_49 : decode b_Shortage_push 49 = .ok (.iaload, 1) := by decide +kernel
theorem d_Shortage_push_50 : decode b_Shortage_push 50 = .ok (.istore_n 3, 1) := by decide +kernel
theorem d_Shortage_push_51 : decode b_Shortage_push 51 = .ok (.iinc 4 1, 3) := by decide +kernel
theorem d_Shortage_push_54 : decode b_Shortage_push 54 = .ok (.goto (-44), 3) := by decide +kernel
theorem d_Shortage_push_57 : decode b_Shortage_push 57 = .ok (.bipush 33, 2) := by decide +kernel
theorem d_Shortage_push_59 : decode b_Shortage_push 59 = .ok (.istore_n 3, 1) := by decide +kernel
theorem d_Shortage_push_60 : decode b_Shortage_push 60 = .ok (.iconst 0, 1) := by decide +kernel
theorem d_Shortage_push_61 : decode b_Shortage_push 61 = .ok (.istore 4, 2) := by decide +kernel
theorem d_Shortage_push_63 : decode b_Shortage_push 63 = .ok (.iload 4, 2) := by decide +kernel
theorem d_Shortage_push_65 : decode b_Shortage_push 65 = .ok (.bipush 34, 2) := by decide +kernel
theorem d_Shortage_push_67 : decode b_Shortage_push 67 = .ok (.if_icmp .ge 62, 3) := by decide +kernel
theorem d_Shortage_push_70 : decode b_Shortage_push 70 = .ok (.iload_n 3, 1) := by decide +kernel
theorem d_Shortage_push_71 : decode b_Shortage_push 71 = .ok (.bipush 32, 2) := by decide +kernel
theorem d_Shortage_push_73 : decode b_Shortage_push 73 = .ok (.if_icmp .eq 56, 3) := by decide +kernel
theorem d_Shortage_push_76 : decode b_Shortage_push 76 = .ok (.aload_n 0, 1) := by decide +kernel
theorem d_Shortage_push_77 : decode b_Shortage_push 77 = .ok (.getfield 15, 3) := by decide +kernel
theorem d_Shortage_push_80 : decode b_Shortage_push 80 = .ok (.aload_n 0, 1) := by decide +kernel
theorem d_Shortage_push_81 : decode b_Shortage_push 81 = .ok (.getfield 19, 3) := by decide +kernel
theorem d_Shortage_push_84 : decode b_Shortage_push 84 = .ok (.iload_n 3, 1) := by decide +kernel
theorem d_Shortage_push_85 : decode b_Shortage_push 85 = .ok (.iaload, 1) := by decide +kernel
theorem d_Shortage_push_86 : decode b_Shortage_push 86 = .ok (.bipush 34, 2) := by decide +kernel
theorem d_Shortage_push_88 : decode b_Shortage_push 88 = .ok (.imul, 1) := by decide +kernel
theorem d_Shortage_push_89 : decode b_Shortage_push 89 = .ok (.iload_n 3, 1) := by decide +kernel
theorem d_Shortage_push_90 : decode b_Shortage_push 90 = .ok (.iadd, 1) := by decide +kernel
theorem d_Shortage_push_91 : decode b_Shortage_push 91 = .ok (.dup2, 1) := by decide +kernel
theorem d_Shortage_push_92 : decode b_Shortage_push 92 = .ok (.laload, 1) := by decide +kernel
theorem d_Shortage_push_93 : decode b_Shortage_push 93 = .ok (.lload_n 1, 1) := by decide +kernel
theorem d_Shortage_push_94 : decode b_Shortage_push 94 = .ok (.lsub, 1) := by decide +kernel
theorem d_Shortage_push_95 : decode b_Shortage_push 95 = .ok (.lastore, 1) := by decide +kernel
theorem d_Shortage_push_96 : decode b_Shortage_push 96 = .ok (.aload_n 0, 1) := by decide +kernel
theorem d_Shortage_push_97 : decode b_Shortage_push 97 = .ok (.getfield 15, 3) := by decide +kernel
theorem d_Shortage_push_100 : decode b_Shortage_push 100 = .ok (.iload_n 3, 1) := by decide +kernel
theorem d_Shortage_push_101 : decode b_Shortage_push 101 = .ok (.bipush 34, 2) := by decide +kernel
theorem d_Shortage_push_103 : decode b_Shortage_push 103 = .ok (.imul, 1) := by decide +kernel
theorem d_Shortage_push_104 : decode b_Shortage_push 104 = .ok (.aload_n 0, 1) := by decide +kernel
theorem d_Shortage_push_105 : decode b_Shortage_push 105 = .ok (.getfield 19, 3) := by decide +kernel
theorem d_Shortage_push_108 : decode b_Shortage_push 108 = .ok (.iload_n 3, 1) := by decide +kernel
theorem d_Shortage_push_109 : decode b_Shortage_push 109 = .ok (.iaload, 1) := by decide +kernel
theorem d_Shortage_push_110 : decode b_Shortage_push 110 = .ok (.iadd, 1) := by decide +kernel
theorem d_Shortage_push_111 : decode b_Shortage_push 111 = .ok (.dup2, 1) := by decide +kernel
theorem d_Shortage_push_112 : decode b_Shortage_push 112 = .ok (.laload, 1) := by decide +kernel
theorem d_Shortage_push_113 : decode b_Shortage_push 113 = .ok (.lload_n 1, 1) := by decide +kernel
theorem d_Shortage_push_114 : decode b_Shortage_push 114 = .ok (.ladd, 1) := by decide +kernel
theorem d_Shortage_push_115 : decode b_Shortage_push 115 = .ok (.lastore, 1) := by decide +kernel
theorem d_Shortage_push_116 : decode b_Shortage_push 116 = .ok (.aload_n 0, 1) := by decide +kernel
theorem d_Shortage_push_117 : decode b_Shortage_push 117 = .ok (.getfield 19, 3) := by decide +kernel
theorem d_Shortage_push_120 : decode b_Shortage_push 120 = .ok (.iload_n 3, 1) := by decide +kernel
theorem d_Shortage_push_121 : decode b_Shortage_push 121 = .ok (.iaload, 1) := by decide +kernel
theorem d_Shortage_push_122 : decode b_Shortage_push 122 = .ok (.istore_n 3, 1) := by decide +kernel
theorem d_Shortage_push_123 : decode b_Shortage_push 123 = .ok (.iinc 4 1, 3) := by decide +kernel
theorem d_Shortage_push_126 : decode b_Shortage_push 126 = .ok (.goto (-63), 3) := by decide +kernel
theorem d_Shortage_push_129 : decode b_Shortage_push 129 = .ok (.return_, 1) := by decide +kernel
def w_T (cI cJ cZ : ClassId) (a : Nat → Nat) (V0 : Nat) (N0 : Nat → Nat) (N1 : Nat → Nat) (L0 : Nat → Int64) (I0 : Nat → Int32) (aS : Nat → Nat) : va_W :=
  [(a 0, .inr (1, [.ref (aS 0), .int (nI V0), .ref (a 1), .ref (a 2), .ref (a 3), .ref (a 4)])),
   (a 1, .inl (cI, 8, .inl (fun j => nI (N0 j)))),
   (a 2, .inl (cJ, 1156, .inr (.inl L0))),
   (a 3, .inl (cI, 34, .inl I0)),
   (a 4, .inl (cI, 34, .inl (fun j => nI (N1 j))))]
theorem hw_upb {g : Nat → Nat} {n k v : Nat} (h : ∀ i, g i < n) (hv : v < n) : ∀ i, va_up g k v i < n := by
  intro i
  by_cases e : i = k
  · subst e
    rw [va_up_self]
    exact hv
  · rw [va_up_ne _ _ e]
    exact h i
section HT
variable {p : Program} {l : Launch} {e : Env} {R : Room} {s : State} {m : MethodId} {args : Array Value} {below : List Frame} {meth : Method} {c : Code} {H : Heap} {locs : List Loc} {cells slots : Nat} {Q : State → Prop} {pc : Nat} {ls : Array Slot} {rest : List Value}
theorem hw_top {x : Int32} {t : Nat} (h : nI t = x) (k : W p l e R s m args below meth c H locs cells slots Q (F0 m pc ls (.int (nI t) :: rest))) : W p l e R s m args below meth c H locs cells slots Q (F0 m pc ls (.int x :: rest)) := by
  rw [← h]
  exact k
end HT
theorem f_Plan_raise_h2_q {VP0 : Nat} {LP0 LP2 LP3 : Nat → Int64} {x1 x2 : Nat} (h12 : VP0 ≤ 12) (hx : x2 < 8) : ∀ (n x3 : Nat) (L1 : Nat → Int64) (q : Nat) (qu : Nat → Nat) (bef : Nat → Int32), (∀ i, qu i < 21) → ∀ i, (f_Plan_raise_h2 VP0 LP0 LP2 LP3 x1 x2 f_Plan_raise_x2 n x3 L1 q qu bef).2.2.1 i < 21 := by
  intro n
  induction n with
  | zero => exact fun x3 L1 q qu bef h => h
  | succ n ih =>
    intro x3 L1 q qu bef h
    rw [f_Plan_raise_h2]
    unfold f_Plan_raise_h2B
    by_cases c1 : 1000000 ≤ x3
    · rw [if_pos c1]
      exact h
    · rw [if_neg c1, hh_bind]
      have hr := hp_rfound_q (f_Plan_findRing_found LP0 L1 LP2 LP3 bef x1 x2 h12 h hx)
      by_cases c2 : 0 ≤ (f_Plan_findRing VP0 qu LP0 L1 LP2 LP3 bef x1 x2).1
      · rw [if_pos c2, hh_bind]
        exact ih _ _ _ _ _ hr
      · rw [if_neg c2]
        exact hr
theorem f_Plan_raise_q {VP0 : Nat} (VP2 : Nat) (NP0 : Nat → Nat) (LP0 LP1 LP2 LP3 : Nat → Int64) (IP1 : Nat → Int32) (x1 x2 : Nat) (h : ∀ i, NP0 i < 21) (h12 : VP0 ≤ 12) (hx : x2 < 8) : ∀ i, (f_Plan_raise VP0 VP2 NP0 LP0 LP1 LP2 LP3 IP1 x1 x2).2.2.1 i < 21 :=
  f_Plan_raise_h2_q h12 hx 1000001 0 LP1 VP2 NP0 IP1 h
def f_Plan_makeFirst_h12B (VP1 : Nat) (LP0 : Nat → Int64) (LP2 : Nat → Int64) (LP3 : Nat → Int64) (x1_2 : Nat) (VP0 : Nat) (k_12 : (Nat) → (Nat → Int64) → (Nat) → (Nat → Nat) → (Nat → Int32) → (Nat → Int64) × (Nat) × (Nat → Nat) × (Nat → Int32)) (rec_12 : (Nat) → (Nat → Int64) → (Nat) → (Nat → Nat) → (Nat → Int32) → (Nat → Int64) × (Nat) × (Nat → Nat) × (Nat → Int32)) (x2_12 : Nat) (LP1_12 : Nat → Int64) (VP2_12 : Nat) (NP0_12 : Nat → Nat) (IP1_12 : Nat → Int32) : (Nat → Int64) × (Nat) × (Nat → Nat) × (Nat → Int32) :=
  if VP1 ≤ x2_12 then (k_12 x2_12 LP1_12 VP2_12 NP0_12 IP1_12) else (hh_bind (f_Plan_isFree LP0 LP2 LP3 x1_2 x2_12) (fun y23 => if y23 = 0 then (rec_12 (x2_12 + 1) LP1_12 VP2_12 NP0_12 IP1_12) else (hh_bind (f_Plan_raise VP0 VP2_12 NP0_12 LP0 LP1_12 LP2 LP3 IP1_12 x1_2 x2_12) (fun y32 => rec_12 (x2_12 + 1) y32.1 y32.2.1 y32.2.2.1 y32.2.2.2))))
def f_Plan_makeFirst_h12 (VP1 : Nat) (LP0 : Nat → Int64) (LP2 : Nat → Int64) (LP3 : Nat → Int64) (x1_2 : Nat) (VP0 : Nat) (k_12 : (Nat) → (Nat → Int64) → (Nat) → (Nat → Nat) → (Nat → Int32) → (Nat → Int64) × (Nat) × (Nat → Nat) × (Nat → Int32)) : Nat → (Nat) → (Nat → Int64) → (Nat) → (Nat → Nat) → (Nat → Int32) → (Nat → Int64) × (Nat) × (Nat → Nat) × (Nat → Int32)
  | 0, x2_12, LP1_12, VP2_12, NP0_12, IP1_12 => k_12 x2_12 LP1_12 VP2_12 NP0_12 IP1_12
  | n + 1, x2_12, LP1_12, VP2_12, NP0_12, IP1_12 => f_Plan_makeFirst_h12B VP1 LP0 LP2 LP3 x1_2 VP0 k_12 (fun x2_12 LP1_12 VP2_12 NP0_12 IP1_12 => f_Plan_makeFirst_h12 VP1 LP0 LP2 LP3 x1_2 VP0 k_12 n x2_12 LP1_12 VP2_12 NP0_12 IP1_12) x2_12 LP1_12 VP2_12 NP0_12 IP1_12
def f_Plan_makeFirst_x12 (rec_2 : (Nat) → (Nat → Int64) → (Nat) → (Nat → Nat) → (Nat → Int32) → (Nat → Int64) × (Nat) × (Nat → Nat) × (Nat → Int32)) (x1_2 : Nat) (x2_12 : Nat) (LP1_12 : Nat → Int64) (VP2_12 : Nat) (NP0_12 : Nat → Nat) (IP1_12 : Nat → Int32) : (Nat → Int64) × (Nat) × (Nat → Nat) × (Nat → Int32) :=
  rec_2 (x1_2 + 1) LP1_12 VP2_12 NP0_12 IP1_12
def f_Plan_makeFirst_h2B (VP0 : Nat) (VP1 : Nat) (LP0 : Nat → Int64) (LP2 : Nat → Int64) (LP3 : Nat → Int64) (k_2 : (Nat) → (Nat → Int64) → (Nat) → (Nat → Nat) → (Nat → Int32) → (Nat → Int64) × (Nat) × (Nat → Nat) × (Nat → Int32)) (rec_2 : (Nat) → (Nat → Int64) → (Nat) → (Nat → Nat) → (Nat → Int32) → (Nat → Int64) × (Nat) × (Nat → Nat) × (Nat → Int32)) (x1_2 : Nat) (LP1_2 : Nat → Int64) (VP2_2 : Nat) (NP0_2 : Nat → Nat) (IP1_2 : Nat → Int32) : (Nat → Int64) × (Nat) × (Nat → Nat) × (Nat → Int32) :=
  if VP0 ≤ x1_2 then (k_2 x1_2 LP1_2 VP2_2 NP0_2 IP1_2) else (f_Plan_makeFirst_h12 VP1 LP0 LP2 LP3 x1_2 VP0 (f_Plan_makeFirst_x12 rec_2 x1_2) 9 0 LP1_2 VP2_2 NP0_2 IP1_2)
def f_Plan_makeFirst_h2 (VP0 : Nat) (VP1 : Nat) (LP0 : Nat → Int64) (LP2 : Nat → Int64) (LP3 : Nat → Int64) (k_2 : (Nat) → (Nat → Int64) → (Nat) → (Nat → Nat) → (Nat → Int32) → (Nat → Int64) × (Nat) × (Nat → Nat) × (Nat → Int32)) : Nat → (Nat) → (Nat → Int64) → (Nat) → (Nat → Nat) → (Nat → Int32) → (Nat → Int64) × (Nat) × (Nat → Nat) × (Nat → Int32)
  | 0, x1_2, LP1_2, VP2_2, NP0_2, IP1_2 => k_2 x1_2 LP1_2 VP2_2 NP0_2 IP1_2
  | n + 1, x1_2, LP1_2, VP2_2, NP0_2, IP1_2 => f_Plan_makeFirst_h2B VP0 VP1 LP0 LP2 LP3 k_2 (fun x1_2 LP1_2 VP2_2 NP0_2 IP1_2 => f_Plan_makeFirst_h2 VP0 VP1 LP0 LP2 LP3 k_2 n x1_2 LP1_2 VP2_2 NP0_2 IP1_2) x1_2 LP1_2 VP2_2 NP0_2 IP1_2
def f_Plan_makeFirst_x2  (x1_2 : Nat) (LP1_2 : Nat → Int64) (VP2_2 : Nat) (NP0_2 : Nat → Nat) (IP1_2 : Nat → Int32) : (Nat → Int64) × (Nat) × (Nat → Nat) × (Nat → Int32) :=
  (LP1_2, VP2_2, NP0_2, IP1_2)
def f_Plan_makeFirst (VP0 : Nat) (VP1 : Nat) (VP2 : Nat) (NP0 : Nat → Nat) (LP0 : Nat → Int64) (LP1 : Nat → Int64) (LP2 : Nat → Int64) (LP3 : Nat → Int64) (IP1 : Nat → Int32) : (Nat → Int64) × (Nat) × (Nat → Nat) × (Nat → Int32) :=
  f_Plan_makeFirst_h2 VP0 VP1 LP0 LP2 LP3 f_Plan_makeFirst_x2 13 0 LP1 VP2 NP0 IP1
set_option maxHeartbeats 4000000 in
set_option maxRecDepth 100000 in
theorem c_Plan_makeFirst (l : Launch) (dC : Nat → ClassId) (dI : Nat → Nat → Nat) (cI cJ cZ : ClassId) (sz : Nat) (aP : Nat → Nat) (VP0 : Nat) (VP1 : Nat) (VP2 : Nat) (NP0 : Nat → Nat) (LP0 : Nat → Int64) (LP1 : Nat → Int64) (LP2 : Nat → Int64) (LP3 : Nat → Int64) (LP4 : Nat → Int64) (IP0 : Nat → Int32) (IP1 : Nat → Int32) (aS : Nat → Nat) (VS0 : Nat) (VS1 : Nat) (VS2 : Nat) (NS0 : Nat → Nat) (NS1 : Nat → Nat) (NS2 : Nat → Nat) (LS0 : Nat → Int64) (LS1 : Nat → Int64) (LS2 : Nat → Int64) (LS3 : Nat → Int64) (LS4 : Nat → Int64) (LS5 : Nat → Int64) (LS6 : Nat → Int64) (LS7 : Nat → Int64) (LS8 : Nat → Int64) (IS0 : Nat → Int32) (aY : Nat → Nat) (VY0 : Nat) (LY0 : Nat → Int64) (LY1 : Nat → Int64) (LY2 : Nat → Int64) (IY0 : Nat → Int32) (hs12 : VP0 ≤ 12) (hb8 : VP1 ≤ 8) (hq : ∀ i, NP0 i < 21) : hh_Cv l y_Plan_makeFirst u_Plan_makeFirst ({ frames := 4, cells := 0, slots := 0, locals := 95 }) (dC, dI) vwCl [(cI, .int), (cJ, .long), (cZ, .boolean)] (w_P cI cJ cZ aP VP0 VP1 VP2 NP0 LP0 LP1 LP2 LP3 LP4 IP0 IP1 aS ++ w_S cI cJ cZ aS VS0 VS1 VS2 NS0 NS1 NS2 LS0 LS1 LS2 LS3 LS4 LS5 LS6 LS7 LS8 IS0 aY ++ w_Y cI cJ cZ aY VY0 LY0 LY1 LY2 IY0) sz [.ref (aP 0)] (w_P cI cJ cZ aP VP0 VP1 ((f_Plan_makeFirst VP0 VP1 VP2 NP0 LP0 LP1 LP2 LP3 IP1).2.1) ((f_Plan_makeFirst VP0 VP1 VP2 NP0 LP0 LP1 LP2 LP3 IP1).2.2.1) LP0 ((f_Plan_makeFirst VP0 VP1 VP2 NP0 LP0 LP1 LP2 LP3 IP1).1) LP2 LP3 LP4 IP0 ((f_Plan_makeFirst VP0 VP1 VP2 NP0 LP0 LP1 LP2 LP3 IP1).2.2.2) aS ++ w_S cI cJ cZ aS VS0 VS1 VS2 NS0 NS1 NS2 LS0 LS1 LS2 LS3 LS4 LS5 LS6 LS7 LS8 IS0 aY ++ w_Y cI cJ cZ aY VY0 LY0 LY1 LY2 IY0) 0 0 := by
  unfold hh_Cv
  refine Met.ofW (cc := b_Plan_makeFirst) (maxL := 3) (ret := none) (by decide) rfl ?_
  intro p e s m args below meth c s₁ B hml hv
  obtain ⟨rfl, hsz, hP, hK, hD0⟩ := hv
  have hx := B.exec
  have hb := B.bytes
  have hr := B.returns
  have hts := atoms_spec (ws := u_Plan_makeFirst) B.pre
  have hG : ∀ w ∈ wG, w.before ([.ref (aP 0)]).toArray s = true := fun w h => hts w (List.mem_cons_of_mem _ h)
  have hown : s.vm.findClass R_Plan = some m.cls := findClass_of_methodNamed B.named
  have hlocks := B.notSynchronized
  subst hsz
  have hD := hD0.self (sz := s.heap.size)
  generalize hAe : va_A (w_P cI cJ cZ aP VP0 VP1 VP2 NP0 LP0 LP1 LP2 LP3 LP4 IP0 IP1 aS ++ w_S cI cJ cZ aS VS0 VS1 VS2 NS0 NS1 NS2 LS0 LS1 LS2 LS3 LS4 LS5 LS6 LS7 LS8 IS0 aY ++ w_Y cI cJ cZ aY VY0 LY0 LY1 LY2 IY0) s.heap.size = A at hD ⊢
  have hA : ∀ q : Nat, s.heap.size ≤ q → A q := fun q h => by rw [← hAe]; exact Or.inr h
  have hS : va_S A s.heap s.heap [] := va_S.rf
  have hl := lv_entry ([.ref (aP 0)]) (n := 3) (Nat.le_of_ble_eq_true rfl)
  rw [lg_entry_eq]
  generalize (lg_sl ([.ref (aP 0)]) ++ List.replicate (3 - (lg_sl ([.ref (aP 0)])).length) Slot.unset).toArray = ls at hl ⊢
  have hl : lv_has ls 3 [(0, .ref (aP 0))] := hl
  generalize hR : f_Plan_makeFirst VP0 VP1 VP2 NP0 LP0 LP1 LP2 LP3 IP1 = r0
  obtain ⟨H, locs, hHe, hle⟩ : ∃ (H : Heap) (locs : List Loc), s.heap = H ∧ [] = locs := ⟨_, _, rfl, rfl⟩
  have hP : va_P (dC, dI) vwCl (w_P cI cJ cZ aP VP0 VP1 VP2 NP0 LP0 LP1 LP2 LP3 LP4 IP0 IP1 aS ++ w_S cI cJ cZ aS VS0 VS1 VS2 NS0 NS1 NS2 LS0 LS1 LS2 LS3 LS4 LS5 LS6 LS7 LS8 IS0 aY ++ w_Y cI cJ cZ aY VY0 LY0 LY1 LY2 IY0) H := by rw [← hHe]; exact hP
  have hS : va_S A s.heap H locs := by rw [← hHe, ← hle]; exact hS
  refine hw_start hHe hle ?_
  unfold f_Plan_makeFirst at hR
  refine lv_iconst (v := nI 0) hx hb d_Plan_makeFirst_0 (by decide) ?_
  refine lv_istore_n (lv' := [(1, .int (nI 0)), (0, .ref (aP 0))]) hx hb d_Plan_makeFirst_1 rfl hl (by decide) rfl (fun ls hl => ?_)
  obtain ⟨k_2, hk_2, hR⟩ : ∃ k, f_Plan_makeFirst_x2 = k ∧ f_Plan_makeFirst_h2 VP0 VP1 LP0 LP2 LP3 k 13 0 LP1 VP2 NP0 IP1 = r0 := ⟨_, rfl, hR⟩
  have X_2 : ∀ (x1_2 : Nat) (LP1_2 : Nat → Int64) (VP2_2 : Nat) (NP0_2 : Nat → Nat) (IP1_2 : Nat → Int32) (hi : x1_2 ≤ VP0) (hq : ∀ i, NP0_2 i < 21) (H : Heap) (locs : List Loc) (hP : va_P (dC, dI) vwCl (w_P cI cJ cZ aP VP0 VP1 VP2_2 NP0_2 LP0 LP1_2 LP2 LP3 LP4 IP0 IP1_2 aS ++ w_S cI cJ cZ aS VS0 VS1 VS2 NS0 NS1 NS2 LS0 LS1 LS2 LS3 LS4 LS5 LS6 LS7 LS8 IS0 aY ++ w_Y cI cJ cZ aY VY0 LY0 LY1 LY2 IY0) H) (hD : va_D A (w_P cI cJ cZ aP VP0 VP1 VP2_2 NP0_2 LP0 LP1_2 LP2 LP3 LP4 IP0 IP1_2 aS ++ w_S cI cJ cZ aS VS0 VS1 VS2 NS0 NS1 NS2 LS0 LS1 LS2 LS3 LS4 LS5 LS6 LS7 LS8 IS0 aY ++ w_Y cI cJ cZ aY VY0 LY0 LY1 LY2 IY0)) (hS : va_S A s.heap H locs) (ls : Array Slot) (hl : lv_has ls 3 [(0, .ref (aP 0)), (1, .int (nI x1_2))]) (hR : k_2 x1_2 LP1_2 VP2_2 NP0_2 IP1_2 = r0), W p l e (headSpec u_Plan_makeFirst ({ frames := 4, cells := 0, slots := 0, locals := 95 })).room s m ([.ref (aP 0)]).toArray below meth c H locs 0 0 (hh_Zv below (dC, dI) vwCl [(cI, .int), (cJ, .long), (cZ, .boolean)] A (w_P cI cJ cZ aP VP0 VP1 r0.2.1 r0.2.2.1 LP0 r0.1 LP2 LP3 LP4 IP0 r0.2.2.2 aS ++ w_S cI cJ cZ aS VS0 VS1 VS2 NS0 NS1 NS2 LS0 LS1 LS2 LS3 LS4 LS5 LS6 LS7 LS8 IS0 aY ++ w_Y cI cJ cZ aY VY0 LY0 LY1 LY2 IY0) ([.ref (aP 0)]).toArray s) (F0 m 47 ls []) := by
    intro x1_2 LP1_2 VP2_2 NP0_2 IP1_2 hi hq H locs hP hD hS ls hl hR
    rw [← hk_2] at hR
    unfold f_Plan_makeFirst_x2 at hR
    subst hR
    exact W.vret hx hb hr (fun t ht hW => ⟨⟨(), rfl, trivial, by rw [ht]; exact hP, va_K.moved hW.alike hK, hD⟩, hS.F ht⟩) hS.2.2 d_Plan_makeFirst_47
  have L_2 : ∀ (n : Nat) (x1_2 : Nat) (LP1_2 : Nat → Int64) (VP2_2 : Nat) (NP0_2 : Nat → Nat) (IP1_2 : Nat → Int32) (hi : x1_2 ≤ VP0) (hq : ∀ i, NP0_2 i < 21) (hfu : VP0 - x1_2 < n) (H : Heap) (locs : List Loc) (hP : va_P (dC, dI) vwCl (w_P cI cJ cZ aP VP0 VP1 VP2_2 NP0_2 LP0 LP1_2 LP2 LP3 LP4 IP0 IP1_2 aS ++ w_S cI cJ cZ aS VS0 VS1 VS2 NS0 NS1 NS2 LS0 LS1 LS2 LS3 LS4 LS5 LS6 LS7 LS8 IS0 aY ++ w_Y cI cJ cZ aY VY0 LY0 LY1 LY2 IY0) H) (hD : va_D A (w_P cI cJ cZ aP VP0 VP1 VP2_2 NP0_2 LP0 LP1_2 LP2 LP3 LP4 IP0 IP1_2 aS ++ w_S cI cJ cZ aS VS0 VS1 VS2 NS0 NS1 NS2 LS0 LS1 LS2 LS3 LS4 LS5 LS6 LS7 LS8 IS0 aY ++ w_Y cI cJ cZ aY VY0 LY0 LY1 LY2 IY0)) (hS : va_S A s.heap H locs) (ls : Array Slot) (hl : lv_has ls 3 [(0, .ref (aP 0)), (1, .int (nI x1_2))]) (hR : f_Plan_makeFirst_h2 VP0 VP1 LP0 LP2 LP3 k_2 n x1_2 LP1_2 VP2_2 NP0_2 IP1_2 = r0), W p l e (headSpec u_Plan_makeFirst ({ frames := 4, cells := 0, slots := 0, locals := 95 })).room s m ([.ref (aP 0)]).toArray below meth c H locs 0 0 (hh_Zv below (dC, dI) vwCl [(cI, .int), (cJ, .long), (cZ, .boolean)] A (w_P cI cJ cZ aP VP0 VP1 r0.2.1 r0.2.2.1 LP0 r0.1 LP2 LP3 LP4 IP0 r0.2.2.2 aS ++ w_S cI cJ cZ aS VS0 VS1 VS2 NS0 NS1 NS2 LS0 LS1 LS2 LS3 LS4 LS5 LS6 LS7 LS8 IS0 aY ++ w_Y cI cJ cZ aY VY0 LY0 LY1 LY2 IY0) ([.ref (aP 0)]).toArray s) (F0 m 2 ls []) := by
    intro n
    induction n with
    | zero =>
      intro x1_2 LP1_2 VP2_2 NP0_2 IP1_2 hi hq hfu H locs hP hD hS ls hl hR
      exact absurd hfu (Nat.not_lt_zero _)
    | succ n ih_2 =>
      intro x1_2 LP1_2 VP2_2 NP0_2 IP1_2 hi hq hfu H locs hP hD hS ls hl hR
      rw [f_Plan_makeFirst_h2] at hR
      obtain ⟨rec_2, hrec_2, hR⟩ : ∃ r, r = _ ∧ f_Plan_makeFirst_h2B VP0 VP1 LP0 LP2 LP3 k_2 r x1_2 LP1_2 VP2_2 NP0_2 IP1_2 = r0 := ⟨_, rfl, hR⟩
      unfold f_Plan_makeFirst_h2B at hR
      refine lv_iload_n hx hb d_Plan_makeFirst_2 rfl (lv_at hl 1 rfl) ?_
      refine lv_aload_n hx hb d_Plan_makeFirst_3 rfl (lv_at hl 0 rfl) ?_
      refine va_get (D := (dC, dI)) (ci := 0) (v := .int (nI VP0)) (C := R_Plan) (T := T_Plan) (N := 12) hx hb hG in_Plan hown hK hP 0 rfl rfl 1 (by decide) (hG _ m_132) (fun _ h9 => h9) rfl d_Plan_makeFirst_4 ?_
      refine hw_icmp_ge (tgt := 47) hx hb d_Plan_makeFirst_7 (by decide) (by omega) (by omega) (fun c7 => ?_) (fun c7 => ?_)
      · replace hR := (if_pos c7).symm.trans hR
        exact X_2 x1_2 LP1_2 VP2_2 NP0_2 IP1_2 (by first | assumption | omega | exact hw_upb (by assumption) (by omega)) (by first | assumption | omega | exact hw_upb (by assumption) (by omega)) H locs hP hD hS ls (lv_sub hl [0, 1] rfl) hR
      · replace hR := (if_neg c7).symm.trans hR
        refine lv_iconst (v := nI 0) hx hb d_Plan_makeFirst_10 (by decide) ?_
        refine lv_istore_n (lv' := [(2, .int (nI 0)), (0, .ref (aP 0)), (1, .int (nI x1_2))]) hx hb d_Plan_makeFirst_11 rfl hl (by decide) rfl (fun ls hl => ?_)
        obtain ⟨k_12, hk_12, hR⟩ : ∃ k, (f_Plan_makeFirst_x12 rec_2 x1_2) = k ∧ f_Plan_makeFirst_h12 VP1 LP0 LP2 LP3 x1_2 VP0 k 9 0 LP1_2 VP2_2 NP0_2 IP1_2 = r0 := ⟨_, rfl, hR⟩
        have X_12 : ∀ (x2_12 : Nat) (LP1_12 : Nat → Int64) (VP2_12 : Nat) (NP0_12 : Nat → Nat) (IP1_12 : Nat → Int32) (hi : x2_12 ≤ VP1) (hq : ∀ i, NP0_12 i < 21) (H : Heap) (locs : List Loc) (hP : va_P (dC, dI) vwCl (w_P cI cJ cZ aP VP0 VP1 VP2_12 NP0_12 LP0 LP1_12 LP2 LP3 LP4 IP0 IP1_12 aS ++ w_S cI cJ cZ aS VS0 VS1 VS2 NS0 NS1 NS2 LS0 LS1 LS2 LS3 LS4 LS5 LS6 LS7 LS8 IS0 aY ++ w_Y cI cJ cZ aY VY0 LY0 LY1 LY2 IY0) H) (hD : va_D A (w_P cI cJ cZ aP VP0 VP1 VP2_12 NP0_12 LP0 LP1_12 LP2 LP3 LP4 IP0 IP1_12 aS ++ w_S cI cJ cZ aS VS0 VS1 VS2 NS0 NS1 NS2 LS0 LS1 LS2 LS3 LS4 LS5 LS6 LS7 LS8 IS0 aY ++ w_Y cI cJ cZ aY VY0 LY0 LY1 LY2 IY0)) (hS : va_S A s.heap H locs) (ls : Array Slot) (hl : lv_has ls 3 [(0, .ref (aP 0)), (1, .int (nI x1_2)), (2, .int (nI x2_12))]) (hR : k_12 x2_12 LP1_12 VP2_12 NP0_12 IP1_12 = r0), W p l e (headSpec u_Plan_makeFirst ({ frames := 4, cells := 0, slots := 0, locals := 95 })).room s m ([.ref (aP 0)]).toArray below meth c H locs 0 0 (hh_Zv below (dC, dI) vwCl [(cI, .int), (cJ, .long), (cZ, .boolean)] A (w_P cI cJ cZ aP VP0 VP1 r0.2.1 r0.2.2.1 LP0 r0.1 LP2 LP3 LP4 IP0 r0.2.2.2 aS ++ w_S cI cJ cZ aS VS0 VS1 VS2 NS0 NS1 NS2 LS0 LS1 LS2 LS3 LS4 LS5 LS6 LS7 LS8 IS0 aY ++ w_Y cI cJ cZ aY VY0 LY0 LY1 LY2 IY0) ([.ref (aP 0)]).toArray s) (F0 m 41 ls []) := by
          intro x2_12 LP1_12 VP2_12 NP0_12 IP1_12 hi hq H locs hP hD hS ls hl hR
          rw [← hk_12] at hR
          unfold f_Plan_makeFirst_x12 at hR
          refine lv_iinc (v := nI (x1_2 + 1)) (lv' := [(1, .int (nI (x1_2 + 1))), (0, .ref (aP 0)), (2, .int (nI x2_12))]) hx hb d_Plan_makeFirst_41 hl (k := 1) rfl (hw_inc _ 1) (by decide) rfl (fun ls hl => ?_)
          refine lv_goto (tgt := 2) hx hb d_Plan_makeFirst_44 (by decide) ?_
          rw [hrec_2] at hR
          exact ih_2 (x1_2 + 1) LP1_12 VP2_12 NP0_12 IP1_12 (by first | assumption | omega | exact hw_upb (by assumption) (by omega)) (by first | assumption | omega | exact hw_upb (by assumption) (by omega)) (by omega) H locs hP hD hS ls (lv_sub hl [1, 0] rfl) hR
        have L_12 : ∀ (n : Nat) (x2_12 : Nat) (LP1_12 : Nat → Int64) (VP2_12 : Nat) (NP0_12 : Nat → Nat) (IP1_12 : Nat → Int32) (hi : x2_12 ≤ VP1) (hq : ∀ i, NP0_12 i < 21) (hfu : VP1 - x2_12 < n) (H : Heap) (locs : List Loc) (hP : va_P (dC, dI) vwCl (w_P cI cJ cZ aP VP0 VP1 VP2_12 NP0_12 LP0 LP1_12 LP2 LP3 LP4 IP0 IP1_12 aS ++ w_S cI cJ cZ aS VS0 VS1 VS2 NS0 NS1 NS2 LS0 LS1 LS2 LS3 LS4 LS5 LS6 LS7 LS8 IS0 aY ++ w_Y cI cJ cZ aY VY0 LY0 LY1 LY2 IY0) H) (hD : va_D A (w_P cI cJ cZ aP VP0 VP1 VP2_12 NP0_12 LP0 LP1_12 LP2 LP3 LP4 IP0 IP1_12 aS ++ w_S cI cJ cZ aS VS0 VS1 VS2 NS0 NS1 NS2 LS0 LS1 LS2 LS3 LS4 LS5 LS6 LS7 LS8 IS0 aY ++ w_Y cI cJ cZ aY VY0 LY0 LY1 LY2 IY0)) (hS : va_S A s.heap H locs) (ls : Array Slot) (hl : lv_has ls 3 [(0, .ref (aP 0)), (1, .int (nI x1_2)), (2, .int (nI x2_12))]) (hR : f_Plan_makeFirst_h12 VP1 LP0 LP2 LP3 x1_2 VP0 k_12 n x2_12 LP1_12 VP2_12 NP0_12 IP1_12 = r0), W p l e (headSpec u_Plan_makeFirst ({ frames := 4, cells := 0, slots := 0, locals := 95 })).room s m ([.ref (aP 0)]).toArray below meth c H locs 0 0 (hh_Zv below (dC, dI) vwCl [(cI, .int), (cJ, .long), (cZ, .boolean)] A (w_P cI cJ cZ aP VP0 VP1 r0.2.1 r0.2.2.1 LP0 r0.1 LP2 LP3 LP4 IP0 r0.2.2.2 aS ++ w_S cI cJ cZ aS VS0 VS1 VS2 NS0 NS1 NS2 LS0 LS1 LS2 LS3 LS4 LS5 LS6 LS7 LS8 IS0 aY ++ w_Y cI cJ cZ aY VY0 LY0 LY1 LY2 IY0) ([.ref (aP 0)]).toArray s) (F0 m 12 ls []) := by
          intro n
          induction n with
          | zero =>
            intro x2_12 LP1_12 VP2_12 NP0_12 IP1_12 hi hq hfu H locs hP hD hS ls hl hR
            exact absurd hfu (Nat.not_lt_zero _)
          | succ n ih_12 =>
            intro x2_12 LP1_12 VP2_12 NP0_12 IP1_12 hi hq hfu H locs hP hD hS ls hl hR
            rw [f_Plan_makeFirst_h12] at hR
            obtain ⟨rec_12, hrec_12, hR⟩ : ∃ r, r = _ ∧ f_Plan_makeFirst_h12B VP1 LP0 LP2 LP3 x1_2 VP0 k_12 r x2_12 LP1_12 VP2_12 NP0_12 IP1_12 = r0 := ⟨_, rfl, hR⟩
            unfold f_Plan_makeFirst_h12B at hR
            refine lv_iload_n hx hb d_Plan_makeFirst_12 rfl (lv_at hl 2 rfl) ?_
            refine lv_aload_n hx hb d_Plan_makeFirst_13 rfl (lv_at hl 0 rfl) ?_
            refine va_get (D := (dC, dI)) (ci := 0) (v := .int (nI VP1)) (C := R_Plan) (T := T_Plan) (N := 12) hx hb hG in_Plan hown hK hP 0 rfl rfl 2 (by decide) (hG _ m_133) (fun _ h9 => h9) rfl d_Plan_makeFirst_14 ?_
            refine hw_icmp_ge (tgt := 41) hx hb d_Plan_makeFirst_17 (by decide) (by omega) (by omega) (fun c17 => ?_) (fun c17 => ?_)
            · replace hR := (if_pos c17).symm.trans hR
              exact X_12 x2_12 LP1_12 VP2_12 NP0_12 IP1_12 (by first | assumption | omega | exact hw_upb (by assumption) (by omega)) (by first | assumption | omega | exact hw_upb (by assumption) (by omega)) H locs hP hD hS ls (lv_sub hl [0, 1, 2] rfl) hR
            · replace hR := (if_neg c17).symm.trans hR
              refine lv_aload_n hx hb d_Plan_makeFirst_20 rfl (lv_at hl 0 rfl) ?_
              refine lv_iload_n hx hb d_Plan_makeFirst_21 rfl (lv_at hl 1 rfl) ?_
              refine lv_iload_n hx hb d_Plan_makeFirst_22 rfl (lv_at hl 2 rfl) ?_
              obtain ⟨y23, hy23, hR⟩ := hw_bind hR
              have hM := c_Plan_isFree l dC dI cI cJ cZ H.size aP VP0 VP1 VP2_12 NP0_12 LP0 LP1_12 LP2 LP3 LP4 IP0 IP1_12 aS VS0 VS1 VS2 NS0 NS1 NS2 LS0 LS1 LS2 LS3 LS4 LS5 LS6 LS7 LS8 IS0 aY VY0 LY0 LY1 LY2 IY0 x1_2 x2_12 (by first | assumption | omega) (by first | assumption | omega)
              rw [hy23] at hM
              refine hw_callVi (As := [.int (nI x1_2), .int (nI x2_12)]) (rest := []) (wr := ([] : va_W)) ⟨hx, hb, hml, hown, hG⟩ hM (hw_cwV 2 hG m_552 m_554 mp_11 m_5 m_555 rfl rfl (by decide +kernel) ⟨Nat.le_of_ble_eq_true rfl, Nat.le_of_ble_eq_true rfl⟩) hK hP hD hS hA [0, 1, 2, 3, 4, 5, 6, 7, 8, 9, 10, 11, 12, 13, 14, 15, 16, 17, 18, 19, 20, 21, 22, 23, 24, 25, 26, 27] [] rfl rfl (by decide) (by decide) (by decide) (hw_recv hK hP 0 rfl rfl) rfl hl.1 rfl (Nat.le_of_ble_eq_true rfl) d_Plan_makeFirst_23 ⟨Nat.le_of_ble_eq_true rfl, Nat.le_of_ble_eq_true rfl⟩ (fun H locs hP hD hS => ?_)
              have hP : va_P (dC, dI) vwCl (w_P cI cJ cZ aP VP0 VP1 VP2_12 NP0_12 LP0 LP1_12 LP2 LP3 LP4 IP0 IP1_12 aS ++ w_S cI cJ cZ aS VS0 VS1 VS2 NS0 NS1 NS2 LS0 LS1 LS2 LS3 LS4 LS5 LS6 LS7 LS8 IS0 aY ++ w_Y cI cJ cZ aY VY0 LY0 LY1 LY2 IY0) H := hP
              have hD : va_D A (w_P cI cJ cZ aP VP0 VP1 VP2_12 NP0_12 LP0 LP1_12 LP2 LP3 LP4 IP0 IP1_12 aS ++ w_S cI cJ cZ aS VS0 VS1 VS2 NS0 NS1 NS2 LS0 LS1 LS2 LS3 LS4 LS5 LS6 LS7 LS8 IS0 aY ++ w_Y cI cJ cZ aY VY0 LY0 LY1 LY2 IY0) := hD
              refine lv_if_eq (tgt := 35) hx hb d_Plan_makeFirst_26 (by decide) (fun c26 => ?_) (fun c26 => ?_)
              · replace hR := (if_pos c26).symm.trans hR
                refine lv_iinc (v := nI (x2_12 + 1)) (lv' := [(2, .int (nI (x2_12 + 1))), (0, .ref (aP 0)), (1, .int (nI x1_2))]) hx hb d_Plan_makeFirst_35 hl (k := 2) rfl (hw_inc _ 1) (by decide) rfl (fun ls hl => ?_)
                refine lv_goto (tgt := 12) hx hb d_Plan_makeFirst_38 (by decide) ?_
                rw [hrec_12] at hR
                exact ih_12 (x2_12 + 1) LP1_12 VP2_12 NP0_12 IP1_12 (by first | assumption | omega | exact hw_upb (by assumption) (by omega)) (by first | assumption | omega | exact hw_upb (by assumption) (by omega)) (by omega) H locs hP hD hS ls (lv_sub hl [1, 2, 0] rfl) hR
              · replace hR := (if_neg c26).symm.trans hR
                refine lv_aload_n hx hb d_Plan_makeFirst_29 rfl (lv_at hl 0 rfl) ?_
                refine lv_iload_n hx hb d_Plan_makeFirst_30 rfl (lv_at hl 1 rfl) ?_
                refine lv_iload_n hx hb d_Plan_makeFirst_31 rfl (lv_at hl 2 rfl) ?_
                obtain ⟨y32, hy32, hR⟩ := hw_bind hR
                have hM := c_Plan_raise l dC dI cI cJ cZ H.size aP VP0 VP1 VP2_12 NP0_12 LP0 LP1_12 LP2 LP3 LP4 IP0 IP1_12 aS VS0 VS1 VS2 NS0 NS1 NS2 LS0 LS1 LS2 LS3 LS4 LS5 LS6 LS7 LS8 IS0 aY VY0 LY0 LY1 LY2 IY0 x1_2 x2_12 (by first | assumption | omega) (by first | assumption | omega) (by first | assumption | omega) (by first | assumption | omega)
                rw [hy32] at hM
                refine hw_callVv (As := [.int (nI x1_2), .int (nI x2_12)]) (rest := []) (wr := ([] : va_W)) ⟨hx, hb, hml, hown, hG⟩ hM (hw_cwV 2 hG m_556 m_558 mp_12 m_5 m_559 rfl rfl (by decide +kernel) ⟨Nat.le_of_ble_eq_true rfl, Nat.le_of_ble_eq_true rfl⟩) hK hP hD hS hA [0, 1, 2, 3, 4, 5, 6, 7, 8, 9, 10, 11, 12, 13, 14, 15, 16, 17, 18, 19, 20, 21, 22, 23, 24, 25, 26, 27] [] rfl rfl (by decide) (by decide) (by decide) (hw_recv hK hP 0 rfl rfl) rfl hl.1 rfl (Nat.le_of_ble_eq_true rfl) d_Plan_makeFirst_32 ⟨Nat.le_of_ble_eq_true rfl, Nat.le_of_ble_eq_true rfl⟩ (fun H locs hP hD hS => ?_)
                have hP : va_P (dC, dI) vwCl (w_P cI cJ cZ aP VP0 VP1 y32.2.1 y32.2.2.1 LP0 y32.1 LP2 LP3 LP4 IP0 y32.2.2.2 aS ++ w_S cI cJ cZ aS VS0 VS1 VS2 NS0 NS1 NS2 LS0 LS1 LS2 LS3 LS4 LS5 LS6 LS7 LS8 IS0 aY ++ w_Y cI cJ cZ aY VY0 LY0 LY1 LY2 IY0) H := hP
                have hD : va_D A (w_P cI cJ cZ aP VP0 VP1 y32.2.1 y32.2.2.1 LP0 y32.1 LP2 LP3 LP4 IP0 y32.2.2.2 aS ++ w_S cI cJ cZ aS VS0 VS1 VS2 NS0 NS1 NS2 LS0 LS1 LS2 LS3 LS4 LS5 LS6 LS7 LS8 IS0 aY ++ w_Y cI cJ cZ aY VY0 LY0 LY1 LY2 IY0) := hD
                have hrq32 := f_Plan_raise_q VP2_12 NP0_12 LP0 LP1_12 LP2 LP3 IP1_12 x1_2 x2_12 (by assumption) hs12 (by omega)
                rw [hy32] at hrq32
                refine lv_iinc (v := nI (x2_12 + 1)) (lv' := [(2, .int (nI (x2_12 + 1))), (0, .ref (aP 0)), (1, .int (nI x1_2))]) hx hb d_Plan_makeFirst_35 hl (k := 2) rfl (hw_inc _ 1) (by decide) rfl (fun ls hl => ?_)
                refine lv_goto (tgt := 12) hx hb d_Plan_makeFirst_38 (by decide) ?_
                rw [hrec_12] at hR
                exact ih_12 (x2_12 + 1) y32.1 y32.2.1 y32.2.2.1 y32.2.2.2 (by first | assumption | omega | exact hw_upb (by assumption) (by omega)) (by first | assumption | omega | exact hw_upb (by assumption) (by omega)) (by omega) H locs hP hD hS ls (lv_sub hl [1, 2, 0] rfl) hR
        exact L_12 9 0 LP1_2 VP2_2 NP0_2 IP1_2 (by first | assumption | omega | exact hw_upb (by assumption) (by omega)) (by first | assumption | omega | exact hw_upb (by assumption) (by omega)) (by omega) H locs hP hD hS ls (lv_sub hl [1, 2, 0] rfl) hR
  exact L_2 13 0 LP1 VP2 NP0 IP1 (by first | assumption | omega | exact hw_upb (by assumption) (by omega)) (by first | assumption | omega | exact hw_upb (by assumption) (by omega)) (by omega) H locs hP hD hS ls (lv_sub hl [1, 0] rfl) hR
def f_Shortage_clear_h99B (VS2 : Nat) (NS2 : Nat → Nat) (LS4 : Nat → Int64) (LS8 : Nat → Int64) (k_99 : (Nat) → (Nat → Int64) → (Nat → Int64)) (rec_99 : (Nat) → (Nat → Int64) → (Nat → Int64)) (x1_99 : Nat) (LT0_99 : Nat → Int64) : (Nat → Int64) :=
  if VS2 ≤ x1_99 then (k_99 x1_99 LT0_99) else (rec_99 (x1_99 + 1) (vp_updL (vp_updL LT0_99 (((12 + x1_99) * 34) + (20 + (NS2 x1_99))) (LS4 x1_99)) (((20 + (NS2 x1_99)) * 34) + 33) (LS8 (NS2 x1_99))))
def f_Shortage_clear_h99 (VS2 : Nat) (NS2 : Nat → Nat) (LS4 : Nat → Int64) (LS8 : Nat → Int64) (k_99 : (Nat) → (Nat → Int64) → (Nat → Int64)) : Nat → (Nat) → (Nat → Int64) → (Nat → Int64)
  | 0, x1_99, LT0_99 => k_99 x1_99 LT0_99
  | n + 1, x1_99, LT0_99 => f_Shortage_clear_h99B VS2 NS2 LS4 LS8 k_99 (fun x1_99 LT0_99 => f_Shortage_clear_h99 VS2 NS2 LS4 LS8 k_99 n x1_99 LT0_99) x1_99 LT0_99
def f_Shortage_clear_x99  (x1_99 : Nat) (LT0_99 : Nat → Int64) : (Nat → Int64) :=
  (LT0_99)
def f_Shortage_clear_h41B (VS2 : Nat) (VS0 : Nat) (NS0 : Nat → Nat) (NS1 : Nat → Nat) (NS2 : Nat → Nat) (IS0 : Nat → Int32) (x1_10 : Nat) (k_41 : (Nat) → (Nat → Int64) → (Nat → Int64)) (rec_41 : (Nat) → (Nat → Int64) → (Nat → Int64)) (x2_41 : Nat) (LT0_41 : Nat → Int64) : (Nat → Int64) :=
  if VS2 ≤ x2_41 then (k_41 x2_41 LT0_41) else (hh_bind (f_Site_serves VS0 NS0 NS1 NS2 IS0 x1_10 x2_41) (fun y71 => if y71 = 0 then (rec_41 (x2_41 + 1) (vp_updL LT0_41 (((x1_10 * 34) + 12) + x2_41) 0)) else (rec_41 (x2_41 + 1) (vp_updL LT0_41 (((x1_10 * 34) + 12) + x2_41) 1099511627776))))
def f_Shortage_clear_h41 (VS2 : Nat) (VS0 : Nat) (NS0 : Nat → Nat) (NS1 : Nat → Nat) (NS2 : Nat → Nat) (IS0 : Nat → Int32) (x1_10 : Nat) (k_41 : (Nat) → (Nat → Int64) → (Nat → Int64)) : Nat → (Nat) → (Nat → Int64) → (Nat → Int64)
  | 0, x2_41, LT0_41 => k_41 x2_41 LT0_41
  | n + 1, x2_41, LT0_41 => f_Shortage_clear_h41B VS2 VS0 NS0 NS1 NS2 IS0 x1_10 k_41 (fun x2_41 LT0_41 => f_Shortage_clear_h41 VS2 VS0 NS0 NS1 NS2 IS0 x1_10 k_41 n x2_41 LT0_41) x2_41 LT0_41
def f_Shortage_clear_x41 (rec_10 : (Nat) → (Nat → Int64) → (Nat → Int64)) (x1_10 : Nat) (x2_41 : Nat) (LT0_41 : Nat → Int64) : (Nat → Int64) :=
  rec_10 (x1_10 + 1) LT0_41
def f_Shortage_clear_h10B (VS0 : Nat) (VS1 : Nat) (NS0 : Nat → Nat) (LS0 : Nat → Int64) (LS6 : Nat → Int64) (LS7 : Nat → Int64) (VS2 : Nat) (NS1 : Nat → Nat) (NS2 : Nat → Nat) (IS0 : Nat → Int32) (k_10 : (Nat) → (Nat → Int64) → (Nat → Int64)) (rec_10 : (Nat) → (Nat → Int64) → (Nat → Int64)) (x1_10 : Nat) (LT0_10 : Nat → Int64) : (Nat → Int64) :=
  hh_bind (f_Site_sources VS0 VS1) (fun y15 => if y15 ≤ x1_10 then (k_10 x1_10 LT0_10) else (hh_bind (f_Site_capacity VS0 NS0 LS0 LS6 LS7 x1_10) (fun y35 => f_Shortage_clear_h41 VS2 VS0 NS0 NS1 NS2 IS0 x1_10 (f_Shortage_clear_x41 rec_10 x1_10) 9 0 (vp_updL LT0_10 (1088 + x1_10) y35))))
def f_Shortage_clear_h10 (VS0 : Nat) (VS1 : Nat) (NS0 : Nat → Nat) (LS0 : Nat → Int64) (LS6 : Nat → Int64) (LS7 : Nat → Int64) (VS2 : Nat) (NS1 : Nat → Nat) (NS2 : Nat → Nat) (IS0 : Nat → Int32) (k_10 : (Nat) → (Nat → Int64) → (Nat → Int64)) : Nat → (Nat) → (Nat → Int64) → (Nat → Int64)
  | 0, x1_10, LT0_10 => k_10 x1_10 LT0_10
  | n + 1, x1_10, LT0_10 => f_Shortage_clear_h10B VS0 VS1 NS0 LS0 LS6 LS7 VS2 NS1 NS2 IS0 k_10 (fun x1_10 LT0_10 => f_Shortage_clear_h10 VS0 VS1 NS0 LS0 LS6 LS7 VS2 NS1 NS2 IS0 k_10 n x1_10 LT0_10) x1_10 LT0_10
def f_Shortage_clear_x10 (VS2 : Nat) (NS2 : Nat → Nat) (LS4 : Nat → Int64) (LS8 : Nat → Int64) (x1_10 : Nat) (LT0_10 : Nat → Int64) : (Nat → Int64) :=
  f_Shortage_clear_h99 VS2 NS2 LS4 LS8 f_Shortage_clear_x99 9 0 LT0_10
def f_Shortage_clear (LT0 : Nat → Int64) (VS0 : Nat) (VS1 : Nat) (VS2 : Nat) (NS0 : Nat → Nat) (NS1 : Nat → Nat) (NS2 : Nat → Nat) (LS0 : Nat → Int64) (LS4 : Nat → Int64) (LS6 : Nat → Int64) (LS7 : Nat → Int64) (LS8 : Nat → Int64) (IS0 : Nat → Int32) : (Nat → Int64) :=
  f_Shortage_clear_h10 VS0 VS1 NS0 LS0 LS6 LS7 VS2 NS1 NS2 IS0 (f_Shortage_clear_x10 VS2 NS2 LS4 LS8) 13 0 (hh_fillJ 1156 LT0 0)
set_option maxHeartbeats 4000000 in
set_option maxRecDepth 100000 in
theorem c_Shortage_clear (l : Launch) (dC : Nat → ClassId) (dI : Nat → Nat → Nat) (cI cJ cZ : ClassId) (sz : Nat) (aT : Nat → Nat) (VT0 : Nat) (NT0 : Nat → Nat) (NT1 : Nat → Nat) (LT0 : Nat → Int64) (IT0 : Nat → Int32) (aS : Nat → Nat) (VS0 : Nat) (VS1 : Nat) (VS2 : Nat) (NS0 : Nat → Nat) (NS1 : Nat → Nat) (NS2 : Nat → Nat) (LS0 : Nat → Int64) (LS1 : Nat → Int64) (LS2 : Nat → Int64) (LS3 : Nat → Int64) (LS4 : Nat → Int64) (LS5 : Nat → Int64) (LS6 : Nat → Int64) (LS7 : Nat → Int64) (LS8 : Nat → Int64) (IS0 : Nat → Int32) (aY : Nat → Nat) (VY0 : Nat) (LY0 : Nat → Int64) (LY1 : Nat → Int64) (LY2 : Nat → Int64) (IY0 : Nat → Int32) (hc8 : VS0 ≤ 8) (hp4 : VS1 ≤ 4) (hf8 : VS2 ≤ 8) (hk4 : ∀ i, NS0 i < 4) (hcw : ∀ i, NS1 i < 12) (hfw : ∀ i, NS2 i < 12) : hh_Cv l y_Shortage_clear u_Shortage_clear ({ frames := 2, cells := 0, slots := 0, locals := 45 }) (dC, dI) vwCl [(cI, .int), (cJ, .long), (cZ, .boolean)] (w_T cI cJ cZ aT VT0 NT0 NT1 LT0 IT0 aS ++ w_S cI cJ cZ aS VS0 VS1 VS2 NS0 NS1 NS2 LS0 LS1 LS2 LS3 LS4 LS5 LS6 LS7 LS8 IS0 aY ++ w_Y cI cJ cZ aY VY0 LY0 LY1 LY2 IY0) sz [.ref (aT 0)] (w_T cI cJ cZ aT VT0 NT0 NT1 (f_Shortage_clear LT0 VS0 VS1 VS2 NS0 NS1 NS2 LS0 LS4 LS6 LS7 LS8 IS0) IT0 aS ++ w_S cI cJ cZ aS VS0 VS1 VS2 NS0 NS1 NS2 LS0 LS1 LS2 LS3 LS4 LS5 LS6 LS7 LS8 IS0 aY ++ w_Y cI cJ cZ aY VY0 LY0 LY1 LY2 IY0) 0 0 := by
  unfold hh_Cv
  refine Met.ofW (cc := b_Shortage_clear) (maxL := 3) (ret := none) (by decide) rfl ?_
  intro p e s m args below meth c s₁ B hml hv
  obtain ⟨rfl, hsz, hP, hK, hD0⟩ := hv
  have hx := B.exec
  have hb := B.bytes
  have hr := B.returns
  have hts := atoms_spec (ws := u_Shortage_clear) B.pre
  have hG : ∀ w ∈ wG, w.before ([.ref (aT 0)]).toArray s = true := fun w h => hts w (List.mem_cons_of_mem _ h)
  have hown : s.vm.findClass R_Shortage = some m.cls := findClass_of_methodNamed B.named
  have hlocks := B.notSynchronized
  subst hsz
  have hD := hD0.self (sz := s.heap.size)
  generalize hAe : va_A (w_T cI cJ cZ aT VT0 NT0 NT1 LT0 IT0 aS ++ w_S cI cJ cZ aS VS0 VS1 VS2 NS0 NS1 NS2 LS0 LS1 LS2 LS3 LS4 LS5 LS6 LS7 LS8 IS0 aY ++ w_Y cI cJ cZ aY VY0 LY0 LY1 LY2 IY0) s.heap.size = A at hD ⊢
  have hA : ∀ q : Nat, s.heap.size ≤ q → A q := fun q h => by rw [← hAe]; exact Or.inr h
  have hS : va_S A s.heap s.heap [] := va_S.rf
  have hl := lv_entry ([.ref (aT 0)]) (n := 3) (Nat.le_of_ble_eq_true rfl)
  rw [lg_entry_eq]
  generalize (lg_sl ([.ref (aT 0)]) ++ List.replicate (3 - (lg_sl ([.ref (aT 0)])).length) Slot.unset).toArray = ls at hl ⊢
  have hl : lv_has ls 3 [(0, .ref (aT 0))] := hl
  generalize hR : f_Shortage_clear LT0 VS0 VS1 VS2 NS0 NS1 NS2 LS0 LS4 LS6 LS7 LS8 IS0 = r0
  obtain ⟨H, locs, hHe, hle⟩ : ∃ (H : Heap) (locs : List Loc), s.heap = H ∧ [] = locs := ⟨_, _, rfl, rfl⟩
  have hP : va_P (dC, dI) vwCl (w_T cI cJ cZ aT VT0 NT0 NT1 LT0 IT0 aS ++ w_S cI cJ cZ aS VS0 VS1 VS2 NS0 NS1 NS2 LS0 LS1 LS2 LS3 LS4 LS5 LS6 LS7 LS8 IS0 aY ++ w_Y cI cJ cZ aY VY0 LY0 LY1 LY2 IY0) H := by rw [← hHe]; exact hP
  have hS : va_S A s.heap H locs := by rw [← hHe, ← hle]; exact hS
  refine hw_start hHe hle ?_
  unfold f_Shortage_clear at hR
  refine lv_aload_n hx hb d_Shortage_clear_0 rfl (lv_at hl 0 rfl) ?_
  refine va_get (D := (dC, dI)) (ci := 1) (v := .ref (aT 2)) (C := R_Shortage) (T := T_Shortage) (N := 6) hx hb hG in_Shortage hown hK hP 0 rfl rfl 3 (by decide) (hG _ m_180) (fun _ h9 => h9) rfl d_Shortage_clear_1 ?_
  refine lv_lconst (v := 0) hx hb d_Shortage_clear_4 (by decide) ?_
  have hM := c_Arrays_fillJ l dC dI cI cJ cZ H.size (aT 2) 1156 (by decide) LT0 0
  refine hw_callSv (As := [.ref (aT 2), .long 0]) (rest := []) (wr := (w_T cI cJ cZ aT VT0 NT0 NT1 LT0 IT0 aS ++ w_S cI cJ cZ aS VS0 VS1 VS2 NS0 NS1 NS2 LS0 LS1 LS2 LS3 LS4 LS5 LS6 LS7 LS8 IS0 aY ++ w_Y cI cJ cZ aY VY0 LY0 LY1 LY2 IY0).eraseIdx 2) ⟨hx, hb, hml, hown, hG⟩ hM (hw_cwS 2 hG m_591 m_53 m_4 m_54 rfl rfl (by decide +kernel) ⟨Nat.le_of_ble_eq_true rfl, Nat.le_of_ble_eq_true rfl⟩) hK hP hD hS hA [2] [0, 1, 3, 4, 5, 6, 7, 8, 9, 10, 11, 12, 13, 14, 15, 16, 17, 18, 19, 20, 21, 22, 23] rfl rfl (by decide) (by decide) (by decide) rfl hl.1 rfl (Nat.le_of_ble_eq_true rfl) d_Shortage_clear_5 ⟨Nat.le_of_ble_eq_true rfl, Nat.le_of_ble_eq_true rfl⟩ (fun H locs hP hD hS => ?_)
  have hP : va_P (dC, dI) vwCl (w_T cI cJ cZ aT VT0 NT0 NT1 (hh_fillJ 1156 LT0 0) IT0 aS ++ w_S cI cJ cZ aS VS0 VS1 VS2 NS0 NS1 NS2 LS0 LS1 LS2 LS3 LS4 LS5 LS6 LS7 LS8 IS0 aY ++ w_Y cI cJ cZ aY VY0 LY0 LY1 LY2 IY0) H := hP.sub [0, 1, 23, 2, 3, 4, 5, 6, 7, 8, 9, 10, 11, 12, 13, 14, 15, 16, 17, 18, 19, 20, 21, 22] rfl
  have hD : va_D A (w_T cI cJ cZ aT VT0 NT0 NT1 (hh_fillJ 1156 LT0 0) IT0 aS ++ w_S cI cJ cZ aS VS0 VS1 VS2 NS0 NS1 NS2 LS0 LS1 LS2 LS3 LS4 LS5 LS6 LS7 LS8 IS0 aY ++ w_Y cI cJ cZ aY VY0 LY0 LY1 LY2 IY0) := hD.sub [0, 1, 23, 2, 3, 4, 5, 6, 7, 8, 9, 10, 11, 12, 13, 14, 15, 16, 17, 18, 19, 20, 21, 22] (by decide) rfl
  refine lv_iconst (v := nI 0) hx hb d_Shortage_clear_8 (by decide) ?_
  refine lv_istore_n (lv' := [(1, .int (nI 0)), (0, .ref (aT 0))]) hx hb d_Shortage_clear_9 rfl hl (by decide) rfl (fun ls hl => ?_)
  obtain ⟨k_10, hk_10, hR⟩ : ∃ k, (f_Shortage_clear_x10 VS2 NS2 LS4 LS8) = k ∧ f_Shortage_clear_h10 VS0 VS1 NS0 LS0 LS6 LS7 VS2 NS1 NS2 IS0 k 13 0 (hh_fillJ 1156 LT0 0) = r0 := ⟨_, rfl, hR⟩
  have X_10 : ∀ (x1_10 : Nat) (LT0_10 : Nat → Int64) (hi : x1_10 ≤ VS0 + VS1) (H : Heap) (locs : List Loc) (hP : va_P (dC, dI) vwCl (w_T cI cJ cZ aT VT0 NT0 NT1 LT0_10 IT0 aS ++ w_S cI cJ cZ aS VS0 VS1 VS2 NS0 NS1 NS2 LS0 LS1 LS2 LS3 LS4 LS5 LS6 LS7 LS8 IS0 aY ++ w_Y cI cJ cZ aY VY0 LY0 LY1 LY2 IY0) H) (hD : va_D A (w_T cI cJ cZ aT VT0 NT0 NT1 LT0_10 IT0 aS ++ w_S cI cJ cZ aS VS0 VS1 VS2 NS0 NS1 NS2 LS0 LS1 LS2 LS3 LS4 LS5 LS6 LS7 LS8 IS0 aY ++ w_Y cI cJ cZ aY VY0 LY0 LY1 LY2 IY0)) (hS : va_S A s.heap H locs) (ls : Array Slot) (hl : lv_has ls 3 [(0, .ref (aT 0)), (1, .int (nI x1_10))]) (hR : k_10 x1_10 LT0_10 = r0), W p l e (headSpec u_Shortage_clear ({ frames := 2, cells := 0, slots := 0, locals := 45 })).room s m ([.ref (aT 0)]).toArray below meth c H locs 0 0 (hh_Zv below (dC, dI) vwCl [(cI, .int), (cJ, .long), (cZ, .boolean)] A (w_T cI cJ cZ aT VT0 NT0 NT1 r0 IT0 aS ++ w_S cI cJ cZ aS VS0 VS1 VS2 NS0 NS1 NS2 LS0 LS1 LS2 LS3 LS4 LS5 LS6 LS7 LS8 IS0 aY ++ w_Y cI cJ cZ aY VY0 LY0 LY1 LY2 IY0) ([.ref (aT 0)]).toArray s) (F0 m 97 ls []) := by
    intro x1_10 LT0_10 hi H locs hP hD hS ls hl hR
    rw [← hk_10] at hR
    unfold f_Shortage_clear_x10 at hR
    refine lv_iconst (v := nI 0) hx hb d_Shortage_clear_97 (by decide) ?_
    refine lv_istore_n (lv' := [(1, .int (nI 0)), (0, .ref (aT 0))]) hx hb d_Shortage_clear_98 rfl hl (by decide) rfl (fun ls hl => ?_)
    obtain ⟨k_99, hk_99, hR⟩ : ∃ k, f_Shortage_clear_x99 = k ∧ f_Shortage_clear_h99 VS2 NS2 LS4 LS8 k 9 0 LT0_10 = r0 := ⟨_, rfl, hR⟩
    have X_99 : ∀ (x1_99 : Nat) (LT0_99 : Nat → Int64) (hi : x1_99 ≤ VS2) (H : Heap) (locs : List Loc) (hP : va_P (dC, dI) vwCl (w_T cI cJ cZ aT VT0 NT0 NT1 LT0_99 IT0 aS ++ w_S cI cJ cZ aS VS0 VS1 VS2 NS0 NS1 NS2 LS0 LS1 LS2 LS3 LS4 LS5 LS6 LS7 LS8 IS0 aY ++ w_Y cI cJ cZ aY VY0 LY0 LY1 LY2 IY0) H) (hD : va_D A (w_T cI cJ cZ aT VT0 NT0 NT1 LT0_99 IT0 aS ++ w_S cI cJ cZ aS VS0 VS1 VS2 NS0 NS1 NS2 LS0 LS1 LS2 LS3 LS4 LS5 LS6 LS7 LS8 IS0 aY ++ w_Y cI cJ cZ aY VY0 LY0 LY1 LY2 IY0)) (hS : va_S A s.heap H locs) (ls : Array Slot) (hl : lv_has ls 3 [(0, .ref (aT 0)), (1, .int (nI x1_99))]) (hR : k_99 x1_99 LT0_99 = r0), W p l e (headSpec u_Shortage_clear ({ frames := 2, cells := 0, slots := 0, locals := 45 })).room s m ([.ref (aT 0)]).toArray below meth c H locs 0 0 (hh_Zv below (dC, dI) vwCl [(cI, .int), (cJ, .long), (cZ, .boolean)] A (w_T cI cJ cZ aT VT0 NT0 NT1 r0 IT0 aS ++ w_S cI cJ cZ aS VS0 VS1 VS2 NS0 NS1 NS2 LS0 LS1 LS2 LS3 LS4 LS5 LS6 LS7 LS8 IS0 aY ++ w_Y cI cJ cZ aY VY0 LY0 LY1 LY2 IY0) ([.ref (aT 0)]).toArray s) (F0 m 181 ls []) := by
      intro x1_99 LT0_99 hi H locs hP hD hS ls hl hR
      rw [← hk_99] at hR
      unfold f_Shortage_clear_x99 at hR
      subst hR
      exact W.vret hx hb hr (fun t ht hW => ⟨⟨(), rfl, trivial, by rw [ht]; exact hP, va_K.moved hW.alike hK, hD⟩, hS.F ht⟩) hS.2.2 d_Shortage_clear_181
    have L_99 : ∀ (n : Nat) (x1_99 : Nat) (LT0_99 : Nat → Int64) (hi : x1_99 ≤ VS2) (hfu : VS2 - x1_99 < n) (H : Heap) (locs : List Loc) (hP : va_P (dC, dI) vwCl (w_T cI cJ cZ aT VT0 NT0 NT1 LT0_99 IT0 aS ++ w_S cI cJ cZ aS VS0 VS1 VS2 NS0 NS1 NS2 LS0 LS1 LS2 LS3 LS4 LS5 LS6 LS7 LS8 IS0 aY ++ w_Y cI cJ cZ aY VY0 LY0 LY1 LY2 IY0) H) (hD : va_D A (w_T cI cJ cZ aT VT0 NT0 NT1 LT0_99 IT0 aS ++ w_S cI cJ cZ aS VS0 VS1 VS2 NS0 NS1 NS2 LS0 LS1 LS2 LS3 LS4 LS5 LS6 LS7 LS8 IS0 aY ++ w_Y cI cJ cZ aY VY0 LY0 LY1 LY2 IY0)) (hS : va_S A s.heap H locs) (ls : Array Slot) (hl : lv_has ls 3 [(0, .ref (aT 0)), (1, .int (nI x1_99))]) (hR : f_Shortage_clear_h99 VS2 NS2 LS4 LS8 k_99 n x1_99 LT0_99 = r0), W p l e (headSpec u_Shortage_clear ({ frames := 2, cells := 0, slots := 0, locals := 45 })).room s m ([.ref (aT 0)]).toArray below meth c H locs 0 0 (hh_Zv below (dC, dI) vwCl [(cI, .int), (cJ, .long), (cZ, .boolean)] A (w_T cI cJ cZ aT VT0 NT0 NT1 r0 IT0 aS ++ w_S cI cJ cZ aS VS0 VS1 VS2 NS0 NS1 NS2 LS0 LS1 LS2 LS3 LS4 LS5 LS6 LS7 LS8 IS0 aY ++ w_Y cI cJ cZ aY VY0 LY0 LY1 LY2 IY0) ([.ref (aT 0)]).toArray s) (F0 m 99 ls []) := by
      intro n
      induction n with
      | zero =>
        intro x1_99 LT0_99 hi hfu H locs hP hD hS ls hl hR
        exact absurd hfu (Nat.not_lt_zero _)
      | succ n ih_99 =>
        intro x1_99 LT0_99 hi hfu H locs hP hD hS ls hl hR
        rw [f_Shortage_clear_h99] at hR
        obtain ⟨rec_99, hrec_99, hR⟩ : ∃ r, r = _ ∧ f_Shortage_clear_h99B VS2 NS2 LS4 LS8 k_99 r x1_99 LT0_99 = r0 := ⟨_, rfl, hR⟩
        unfold f_Shortage_clear_h99B at hR
        refine lv_iload_n hx hb d_Shortage_clear_99 rfl (lv_at hl 1 rfl) ?_
        refine lv_aload_n hx hb d_Shortage_clear_100 rfl (lv_at hl 0 rfl) ?_
        refine va_get (D := (dC, dI)) (ci := 1) (v := .ref (aS 0)) (C := R_Shortage) (T := T_Shortage) (N := 6) hx hb hG in_Shortage hown hK hP 0 rfl rfl 0 (by decide) (hG _ m_175) (fun _ h9 => h9) rfl d_Shortage_clear_101 ?_
        refine va_get (D := (dC, dI)) (ci := 2) (v := .int (nI VS2)) (C := R_Site) (T := T_Site) (N := 17) hx hb hG in_Site hown hK hP 5 rfl rfl 2 (by decide) (hG _ m_60) (fun _ h9 => h9) rfl d_Shortage_clear_104 ?_
        refine hw_icmp_ge (tgt := 181) hx hb d_Shortage_clear_107 (by decide) (by omega) (by omega) (fun c107 => ?_) (fun c107 => ?_)
        · replace hR := (if_pos c107).symm.trans hR
          exact X_99 x1_99 LT0_99 (by first | assumption | omega | exact hw_upb (by assumption) (by omega)) H locs hP hD hS ls (lv_sub hl [0, 1] rfl) hR
        · replace hR := (if_neg c107).symm.trans hR
          refine lv_bipush (v := nI 20) hx hb d_Shortage_clear_110 (by decide) ?_
          refine lv_aload_n hx hb d_Shortage_clear_112 rfl (lv_at hl 0 rfl) ?_
          refine va_get (D := (dC, dI)) (ci := 1) (v := .ref (aS 0)) (C := R_Shortage) (T := T_Shortage) (N := 6) hx hb hG in_Shortage hown hK hP 0 rfl rfl 0 (by decide) (hG _ m_175) (fun _ h9 => h9) rfl d_Shortage_clear_113 ?_
          refine va_get (D := (dC, dI)) (ci := 2) (v := .ref (aS 9)) (C := R_Site) (T := T_Site) (N := 17) hx hb hG in_Site hown hK hP 5 rfl rfl 12 (by decide) (hG _ m_79) (fun _ h9 => h9) rfl d_Shortage_clear_116 ?_
          refine lv_iload_n hx hb d_Shortage_clear_119 rfl (lv_at hl 1 rfl) ?_
          refine hw_nald (g := NS2) hx hb hK hP 14 0 rfl rfl (by decide) (by omega) d_Shortage_clear_120 ?_
          have hb120 := hfw x1_99
          refine hw_iadd hx hb d_Shortage_clear_121 ?_
          refine lv_istore_n (lv' := [(2, .int (nI (20 + (NS2 x1_99)))), (0, .ref (aT 0)), (1, .int (nI x1_99))]) hx hb d_Shortage_clear_122 rfl hl (by decide) rfl (fun ls hl => ?_)
          refine lv_aload_n hx hb d_Shortage_clear_123 rfl (lv_at hl 1 rfl) ?_
          refine va_get (D := (dC, dI)) (ci := 1) (v := .ref (aT 2)) (C := R_Shortage) (T := T_Shortage) (N := 6) hx hb hG in_Shortage hown hK hP 0 rfl rfl 3 (by decide) (hG _ m_180) (fun _ h9 => h9) rfl d_Shortage_clear_124 ?_
          refine lv_bipush (v := nI 12) hx hb d_Shortage_clear_127 (by decide) ?_
          refine lv_iload_n hx hb d_Shortage_clear_129 rfl (lv_at hl 2 rfl) ?_
          refine hw_iadd hx hb d_Shortage_clear_130 ?_
          refine lv_bipush (v := nI 34) hx hb d_Shortage_clear_131 (by decide) ?_
          refine hw_imul hx hb d_Shortage_clear_133 ?_
          refine lv_iload_n hx hb d_Shortage_clear_134 rfl (lv_at hl 0 rfl) ?_
          refine hw_iadd hx hb d_Shortage_clear_135 ?_
          refine lv_aload_n hx hb d_Shortage_clear_136 rfl (lv_at hl 1 rfl) ?_
          refine va_get (D := (dC, dI)) (ci := 1) (v := .ref (aS 0)) (C := R_Shortage) (T := T_Shortage) (N := 6) hx hb hG in_Shortage hown hK hP 0 rfl rfl 0 (by decide) (hG _ m_175) (fun _ h9 => h9) rfl d_Shortage_clear_137 ?_
          refine va_get (D := (dC, dI)) (ci := 2) (v := .ref (aS 7)) (C := R_Site) (T := T_Site) (N := 17) hx hb hG in_Site hown hK hP 5 rfl rfl 10 (by decide) (hG _ m_73) (fun _ h9 => h9) rfl d_Shortage_clear_140 ?_
          refine lv_iload_n hx hb d_Shortage_clear_143 rfl (lv_at hl 2 rfl) ?_
          refine hw_lald (f := LS4) hx hb hK hP 12 1 rfl rfl (by decide) (by omega) d_Shortage_clear_144 ?_
          refine hw_last (f := LT0_99) hx hb hK hP hD hS 2 1 rfl rfl (by decide) (by omega) d_Shortage_clear_145 (fun H locs hP hD hS => ?_)
          have hP : va_P (dC, dI) vwCl (w_T cI cJ cZ aT VT0 NT0 NT1 (vp_updL LT0_99 (((12 + x1_99) * 34) + (20 + (NS2 x1_99))) (LS4 x1_99)) IT0 aS ++ w_S cI cJ cZ aS VS0 VS1 VS2 NS0 NS1 NS2 LS0 LS1 LS2 LS3 LS4 LS5 LS6 LS7 LS8 IS0 aY ++ w_Y cI cJ cZ aY VY0 LY0 LY1 LY2 IY0) H := hP
          have hD : va_D A (w_T cI cJ cZ aT VT0 NT0 NT1 (vp_updL LT0_99 (((12 + x1_99) * 34) + (20 + (NS2 x1_99))) (LS4 x1_99)) IT0 aS ++ w_S cI cJ cZ aS VS0 VS1 VS2 NS0 NS1 NS2 LS0 LS1 LS2 LS3 LS4 LS5 LS6 LS7 LS8 IS0 aY ++ w_Y cI cJ cZ aY VY0 LY0 LY1 LY2 IY0) := hD
          refine lv_aload_n hx hb d_Shortage_clear_146 rfl (lv_at hl 1 rfl) ?_
          refine va_get (D := (dC, dI)) (ci := 1) (v := .ref (aT 2)) (C := R_Shortage) (T := T_Shortage) (N := 6) hx hb hG in_Shortage hown hK hP 0 rfl rfl 3 (by decide) (hG _ m_180) (fun _ h9 => h9) rfl d_Shortage_clear_147 ?_
          refine lv_iload_n hx hb d_Shortage_clear_150 rfl (lv_at hl 0 rfl) ?_
          refine lv_bipush (v := nI 34) hx hb d_Shortage_clear_151 (by decide) ?_
          refine hw_imul hx hb d_Shortage_clear_153 ?_
          refine lv_bipush (v := nI 33) hx hb d_Shortage_clear_154 (by decide) ?_
          refine hw_iadd hx hb d_Shortage_clear_156 ?_
          refine lv_aload_n hx hb d_Shortage_clear_157 rfl (lv_at hl 1 rfl) ?_
          refine va_get (D := (dC, dI)) (ci := 1) (v := .ref (aS 0)) (C := R_Shortage) (T := T_Shortage) (N := 6) hx hb hG in_Shortage hown hK hP 0 rfl rfl 0 (by decide) (hG _ m_175) (fun _ h9 => h9) rfl d_Shortage_clear_158 ?_
          refine va_get (D := (dC, dI)) (ci := 2) (v := .ref (aS 13)) (C := R_Site) (T := T_Site) (N := 17) hx hb hG in_Site hown hK hP 5 rfl rfl 16 (by decide) (hG _ m_88) (fun _ h9 => h9) rfl d_Shortage_clear_161 ?_
          refine lv_aload_n hx hb d_Shortage_clear_164 rfl (lv_at hl 1 rfl) ?_
          refine va_get (D := (dC, dI)) (ci := 1) (v := .ref (aS 0)) (C := R_Shortage) (T := T_Shortage) (N := 6) hx hb hG in_Shortage hown hK hP 0 rfl rfl 0 (by decide) (hG _ m_175) (fun _ h9 => h9) rfl d_Shortage_clear_165 ?_
          refine va_get (D := (dC, dI)) (ci := 2) (v := .ref (aS 9)) (C := R_Site) (T := T_Site) (N := 17) hx hb hG in_Site hown hK hP 5 rfl rfl 12 (by decide) (hG _ m_79) (fun _ h9 => h9) rfl d_Shortage_clear_168 ?_
          refine lv_iload_n hx hb d_Shortage_clear_171 rfl (lv_at hl 2 rfl) ?_
          refine hw_nald (g := NS2) hx hb hK hP 14 0 rfl rfl (by decide) (by omega) d_Shortage_clear_172 ?_
          have hb172 := hfw x1_99
          refine hw_lald (f := LS8) hx hb hK hP 18 1 rfl rfl (by decide) (by omega) d_Shortage_clear_173 ?_
          refine hw_last (f := (vp_updL LT0_99 (((12 + x1_99) * 34) + (20 + (NS2 x1_99))) (LS4 x1_99))) hx hb hK hP hD hS 2 1 rfl rfl (by decide) (by omega) d_Shortage_clear_174 (fun H locs hP hD hS => ?_)
          have hP : va_P (dC, dI) vwCl (w_T cI cJ cZ aT VT0 NT0 NT1 (vp_updL (vp_updL LT0_99 (((12 + x1_99) * 34) + (20 + (NS2 x1_99))) (LS4 x1_99)) (((20 + (NS2 x1_99)) * 34) + 33) (LS8 (NS2 x1_99))) IT0 aS ++ w_S cI cJ cZ aS VS0 VS1 VS2 NS0 NS1 NS2 LS0 LS1 LS2 LS3 LS4 LS5 LS6 LS7 LS8 IS0 aY ++ w_Y cI cJ cZ aY VY0 LY0 LY1 LY2 IY0) H := hP
          have hD : va_D A (w_T cI cJ cZ aT VT0 NT0 NT1 (vp_updL (vp_updL LT0_99 (((12 + x1_99) * 34) + (20 + (NS2 x1_99))) (LS4 x1_99)) (((20 + (NS2 x1_99)) * 34) + 33) (LS8 (NS2 x1_99))) IT0 aS ++ w_S cI cJ cZ aS VS0 VS1 VS2 NS0 NS1 NS2 LS0 LS1 LS2 LS3 LS4 LS5 LS6 LS7 LS8 IS0 aY ++ w_Y cI cJ cZ aY VY0 LY0 LY1 LY2 IY0) := hD
          refine lv_iinc (v := nI (x1_99 + 1)) (lv' := [(1, .int (nI (x1_99 + 1))), (2, .int (nI (20 + (NS2 x1_99)))), (0, .ref (aT 0))]) hx hb d_Shortage_clear_175 hl (k := 2) rfl (hw_inc _ 1) (by decide) rfl (fun ls hl => ?_)
          refine lv_goto (tgt := 99) hx hb d_Shortage_clear_178 (by decide) ?_
          rw [hrec_99] at hR
          exact ih_99 (x1_99 + 1) (vp_updL (vp_updL LT0_99 (((12 + x1_99) * 34) + (20 + (NS2 x1_99))) (LS4 x1_99)) (((20 + (NS2 x1_99)) * 34) + 33) (LS8 (NS2 x1_99))) (by first | assumption | omega | exact hw_upb (by assumption) (by omega)) (by omega) H locs hP hD hS ls (lv_sub hl [2, 0] rfl) hR
    exact L_99 9 0 LT0_10 (by first | assumption | omega | exact hw_upb (by assumption) (by omega)) (by omega) H locs hP hD hS ls (lv_sub hl [1, 0] rfl) hR
  have L_10 : ∀ (n : Nat) (x1_10 : Nat) (LT0_10 : Nat → Int64) (hi : x1_10 ≤ VS0 + VS1) (hfu : VS0 + VS1 - x1_10 < n) (H : Heap) (locs : List Loc) (hP : va_P (dC, dI) vwCl (w_T cI cJ cZ aT VT0 NT0 NT1 LT0_10 IT0 aS ++ w_S cI cJ cZ aS VS0 VS1 VS2 NS0 NS1 NS2 LS0 LS1 LS2 LS3 LS4 LS5 LS6 LS7 LS8 IS0 aY ++ w_Y cI cJ cZ aY VY0 LY0 LY1 LY2 IY0) H) (hD : va_D A (w_T cI cJ cZ aT VT0 NT0 NT1 LT0_10 IT0 aS ++ w_S cI cJ cZ aS VS0 VS1 VS2 NS0 NS1 NS2 LS0 LS1 LS2 LS3 LS4 LS5 LS6 LS7 LS8 IS0 aY ++ w_Y cI cJ cZ aY VY0 LY0 LY1 LY2 IY0)) (hS : va_S A s.heap H locs) (ls : Array Slot) (hl : lv_has ls 3 [(0, .ref (aT 0)), (1, .int (nI x1_10))]) (hR : f_Shortage_clear_h10 VS0 VS1 NS0 LS0 LS6 LS7 VS2 NS1 NS2 IS0 k_10 n x1_10 LT0_10 = r0), W p l e (headSpec u_Shortage_clear ({ frames := 2, cells := 0, slots := 0, locals := 45 })).room s m ([.ref (aT 0)]).toArray below meth c H locs 0 0 (hh_Zv below (dC, dI) vwCl [(cI, .int), (cJ, .long), (cZ, .boolean)] A (w_T cI cJ cZ aT VT0 NT0 NT1 r0 IT0 aS ++ w_S cI cJ cZ aS VS0 VS1 VS2 NS0 NS1 NS2 LS0 LS1 LS2 LS3 LS4 LS5 LS6 LS7 LS8 IS0 aY ++ w_Y cI cJ cZ aY VY0 LY0 LY1 LY2 IY0) ([.ref (aT 0)]).toArray s) (F0 m 10 ls []) := by
    intro n
    induction n with
    | zero =>
      intro x1_10 LT0_10 hi hfu H locs hP hD hS ls hl hR
      exact absurd hfu (Nat.not_lt_zero _)
    | succ n ih_10 =>
      intro x1_10 LT0_10 hi hfu H locs hP hD hS ls hl hR
      rw [f_Shortage_clear_h10] at hR
      obtain ⟨rec_10, hrec_10, hR⟩ : ∃ r, r = _ ∧ f_Shortage_clear_h10B VS0 VS1 NS0 LS0 LS6 LS7 VS2 NS1 NS2 IS0 k_10 r x1_10 LT0_10 = r0 := ⟨_, rfl, hR⟩
      unfold f_Shortage_clear_h10B at hR
      refine lv_iload_n hx hb d_Shortage_clear_10 rfl (lv_at hl 1 rfl) ?_
      refine lv_aload_n hx hb d_Shortage_clear_11 rfl (lv_at hl 0 rfl) ?_
      refine va_get (D := (dC, dI)) (ci := 1) (v := .ref (aS 0)) (C := R_Shortage) (T := T_Shortage) (N := 6) hx hb hG in_Shortage hown hK hP 0 rfl rfl 0 (by decide) (hG _ m_175) (fun _ h9 => h9) rfl d_Shortage_clear_12 ?_
      obtain ⟨y15, hy15, hR⟩ := hw_bind hR
      have hM := c_Site_sources l dC dI cI cJ cZ H.size aS VS0 VS1 VS2 NS0 NS1 NS2 LS0 LS1 LS2 LS3 LS4 LS5 LS6 LS7 LS8 IS0 aY VY0 LY0 LY1 LY2 IY0
      rw [hy15] at hM
      refine hw_callVi (As := []) (rest := [.int (nI x1_10)]) (wr := w_T cI cJ cZ aT VT0 NT0 NT1 LT0_10 IT0 aS) ⟨hx, hb, hml, hown, hG⟩ hM (hw_cwV 0 hG m_592 m_292 m_293 m_2 m_294 rfl rfl (by decide +kernel) ⟨Nat.le_of_ble_eq_true rfl, Nat.le_of_ble_eq_true rfl⟩) hK hP hD hS hA [5, 6, 7, 8, 9, 10, 11, 12, 13, 14, 15, 16, 17, 18, 19, 20, 21, 22, 23] [0, 1, 2, 3, 4] rfl rfl (by decide) (by decide) (by decide) (hw_recv hK hP 5 rfl rfl) rfl hl.1 rfl (Nat.le_of_ble_eq_true rfl) d_Shortage_clear_15 ⟨Nat.le_of_ble_eq_true rfl, Nat.le_of_ble_eq_true rfl⟩ (fun H locs hP hD hS => ?_)
      have hP : va_P (dC, dI) vwCl (w_T cI cJ cZ aT VT0 NT0 NT1 LT0_10 IT0 aS ++ w_S cI cJ cZ aS VS0 VS1 VS2 NS0 NS1 NS2 LS0 LS1 LS2 LS3 LS4 LS5 LS6 LS7 LS8 IS0 aY ++ w_Y cI cJ cZ aY VY0 LY0 LY1 LY2 IY0) H := hP
      have hD : va_D A (w_T cI cJ cZ aT VT0 NT0 NT1 LT0_10 IT0 aS ++ w_S cI cJ cZ aS VS0 VS1 VS2 NS0 NS1 NS2 LS0 LS1 LS2 LS3 LS4 LS5 LS6 LS7 LS8 IS0 aY ++ w_Y cI cJ cZ aY VY0 LY0 LY1 LY2 IY0) := hD
      have hs15 : y15 = VS0 + VS1 := by rw [← hy15]; rfl
      refine hw_icmp_ge (tgt := 97) hx hb d_Shortage_clear_18 (by decide) (by omega) (by omega) (fun c18 => ?_) (fun c18 => ?_)
      · replace hR := (if_pos c18).symm.trans hR
        exact X_10 x1_10 LT0_10 (by first | assumption | omega | exact hw_upb (by assumption) (by omega)) H locs hP hD hS ls (lv_sub hl [0, 1] rfl) hR
      · replace hR := (if_neg c18).symm.trans hR
        refine lv_aload_n hx hb d_Shortage_clear_21 rfl (lv_at hl 0 rfl) ?_
        refine va_get (D := (dC, dI)) (ci := 1) (v := .ref (aT 2)) (C := R_Shortage) (T := T_Shortage) (N := 6) hx hb hG in_Shortage hown hK hP 0 rfl rfl 3 (by decide) (hG _ m_180) (fun _ h9 => h9) rfl d_Shortage_clear_22 ?_
        refine lv_sipush (v := nI 1088) hx hb d_Shortage_clear_25 (by decide) ?_
        refine lv_iload_n hx hb d_Shortage_clear_28 rfl (lv_at hl 1 rfl) ?_
        refine hw_iadd hx hb d_Shortage_clear_29 ?_
        refine lv_aload_n hx hb d_Shortage_clear_30 rfl (lv_at hl 0 rfl) ?_
        refine va_get (D := (dC, dI)) (ci := 1) (v := .ref (aS 0)) (C := R_Shortage) (T := T_Shortage) (N := 6) hx hb hG in_Shortage hown hK hP 0 rfl rfl 0 (by decide) (hG _ m_175) (fun _ h9 => h9) rfl d_Shortage_clear_31 ?_
        refine lv_iload_n hx hb d_Shortage_clear_34 rfl (lv_at hl 1 rfl) ?_
        obtain ⟨y35, hy35, hR⟩ := hw_bind hR
        have hM := c_Site_capacity l dC dI cI cJ cZ H.size aS VS0 VS1 VS2 NS0 NS1 NS2 LS0 LS1 LS2 LS3 LS4 LS5 LS6 LS7 LS8 IS0 aY VY0 LY0 LY1 LY2 IY0 x1_10 (by first | assumption | omega) (by first | assumption | omega) (by first | assumption | omega)
        rw [hy35] at hM
        refine hw_callVl (As := [.int (nI x1_10)]) (rest := [.int (nI (1088 + x1_10)), .ref (aT 2)]) (wr := w_T cI cJ cZ aT VT0 NT0 NT1 LT0_10 IT0 aS) ⟨hx, hb, hml, hown, hG⟩ hM (hw_cwV 1 hG m_593 m_383 m_384 m_2 m_385 rfl rfl (by decide +kernel) ⟨Nat.le_of_ble_eq_true rfl, Nat.le_of_ble_eq_true rfl⟩) hK hP hD hS hA [5, 6, 7, 8, 9, 10, 11, 12, 13, 14, 15, 16, 17, 18, 19, 20, 21, 22, 23] [0, 1, 2, 3, 4] rfl rfl (by decide) (by decide) (by decide) (hw_recv hK hP 5 rfl rfl) rfl hl.1 rfl (Nat.le_of_ble_eq_true rfl) d_Shortage_clear_35 ⟨Nat.le_of_ble_eq_true rfl, Nat.le_of_ble_eq_true rfl⟩ (fun H locs hP hD hS => ?_)
        have hP : va_P (dC, dI) vwCl (w_T cI cJ cZ aT VT0 NT0 NT1 LT0_10 IT0 aS ++ w_S cI cJ cZ aS VS0 VS1 VS2 NS0 NS1 NS2 LS0 LS1 LS2 LS3 LS4 LS5 LS6 LS7 LS8 IS0 aY ++ w_Y cI cJ cZ aY VY0 LY0 LY1 LY2 IY0) H := hP
        have hD : va_D A (w_T cI cJ cZ aT VT0 NT0 NT1 LT0_10 IT0 aS ++ w_S cI cJ cZ aS VS0 VS1 VS2 NS0 NS1 NS2 LS0 LS1 LS2 LS3 LS4 LS5 LS6 LS7 LS8 IS0 aY ++ w_Y cI cJ cZ aY VY0 LY0 LY1 LY2 IY0) := hD
        refine hw_last (f := LT0_10) hx hb hK hP hD hS 2 1 rfl rfl (by decide) (by omega) d_Shortage_clear_38 (fun H locs hP hD hS => ?_)
        have hP : va_P (dC, dI) vwCl (w_T cI cJ cZ aT VT0 NT0 NT1 (vp_updL LT0_10 (1088 + x1_10) y35) IT0 aS ++ w_S cI cJ cZ aS VS0 VS1 VS2 NS0 NS1 NS2 LS0 LS1 LS2 LS3 LS4 LS5 LS6 LS7 LS8 IS0 aY ++ w_Y cI cJ cZ aY VY0 LY0 LY1 LY2 IY0) H := hP
        have hD : va_D A (w_T cI cJ cZ aT VT0 NT0 NT1 (vp_updL LT0_10 (1088 + x1_10) y35) IT0 aS ++ w_S cI cJ cZ aS VS0 VS1 VS2 NS0 NS1 NS2 LS0 LS1 LS2 LS3 LS4 LS5 LS6 LS7 LS8 IS0 aY ++ w_Y cI cJ cZ aY VY0 LY0 LY1 LY2 IY0) := hD
        refine lv_iconst (v := nI 0) hx hb d_Shortage_clear_39 (by decide) ?_
        refine lv_istore_n (lv' := [(2, .int (nI 0)), (0, .ref (aT 0)), (1, .int (nI x1_10))]) hx hb d_Shortage_clear_40 rfl hl (by decide) rfl (fun ls hl => ?_)
        obtain ⟨k_41, hk_41, hR⟩ : ∃ k, (f_Shortage_clear_x41 rec_10 x1_10) = k ∧ f_Shortage_clear_h41 VS2 VS0 NS0 NS1 NS2 IS0 x1_10 k 9 0 (vp_updL LT0_10 (1088 + x1_10) y35) = r0 := ⟨_, rfl, hR⟩
        have X_41 : ∀ (x2_41 : Nat) (LT0_41 : Nat → Int64) (hi : x2_41 ≤ VS2) (H : Heap) (locs : List Loc) (hP : va_P (dC, dI) vwCl (w_T cI cJ cZ aT VT0 NT0 NT1 LT0_41 IT0 aS ++ w_S cI cJ cZ aS VS0 VS1 VS2 NS0 NS1 NS2 LS0 LS1 LS2 LS3 LS4 LS5 LS6 LS7 LS8 IS0 aY ++ w_Y cI cJ cZ aY VY0 LY0 LY1 LY2 IY0) H) (hD : va_D A (w_T cI cJ cZ aT VT0 NT0 NT1 LT0_41 IT0 aS ++ w_S cI cJ cZ aS VS0 VS1 VS2 NS0 NS1 NS2 LS0 LS1 LS2 LS3 LS4 LS5 LS6 LS7 LS8 IS0 aY ++ w_Y cI cJ cZ aY VY0 LY0 LY1 LY2 IY0)) (hS : va_S A s.heap H locs) (ls : Array Slot) (hl : lv_has ls 3 [(0, .ref (aT 0)), (1, .int (nI x1_10)), (2, .int (nI x2_41))]) (hR : k_41 x2_41 LT0_41 = r0), W p l e (headSpec u_Shortage_clear ({ frames := 2, cells := 0, slots := 0, locals := 45 })).room s m ([.ref (aT 0)]).toArray below meth c H locs 0 0 (hh_Zv below (dC, dI) vwCl [(cI, .int), (cJ, .long), (cZ, .boolean)] A (w_T cI cJ cZ aT VT0 NT0 NT1 r0 IT0 aS ++ w_S cI cJ cZ aS VS0 VS1 VS2 NS0 NS1 NS2 LS0 LS1 LS2 LS3 LS4 LS5 LS6 LS7 LS8 IS0 aY ++ w_Y cI cJ cZ aY VY0 LY0 LY1 LY2 IY0) ([.ref (aT 0)]).toArray s) (F0 m 91 ls []) := by
          intro x2_41 LT0_41 hi H locs hP hD hS ls hl hR
          rw [← hk_41] at hR
          unfold f_Shortage_clear_x41 at hR
          refine lv_iinc (v := nI (x1_10 + 1)) (lv' := [(1, .int (nI (x1_10 + 1))), (0, .ref (aT 0)), (2, .int (nI x2_41))]) hx hb d_Shortage_clear_91 hl (k := 1) rfl (hw_inc _ 1) (by decide) rfl (fun ls hl => ?_)
          refine lv_goto (tgt := 10) hx hb d_Shortage_clear_94 (by decide) ?_
          rw [hrec_10] at hR
          exact ih_10 (x1_10 + 1) LT0_41 (by first | assumption | omega | exact hw_upb (by assumption) (by omega)) (by omega) H locs hP hD hS ls (lv_sub hl [1, 0] rfl) hR
        have L_41 : ∀ (n : Nat) (x2_41 : Nat) (LT0_41 : Nat → Int64) (hi : x2_41 ≤ VS2) (hfu : VS2 - x2_41 < n) (H : Heap) (locs : List Loc) (hP : va_P (dC, dI) vwCl (w_T cI cJ cZ aT VT0 NT0 NT1 LT0_41 IT0 aS ++ w_S cI cJ cZ aS VS0 VS1 VS2 NS0 NS1 NS2 LS0 LS1 LS2 LS3 LS4 LS5 LS6 LS7 LS8 IS0 aY ++ w_Y cI cJ cZ aY VY0 LY0 LY1 LY2 IY0) H) (hD : va_D A (w_T cI cJ cZ aT VT0 NT0 NT1 LT0_41 IT0 aS ++ w_S cI cJ cZ aS VS0 VS1 VS2 NS0 NS1 NS2 LS0 LS1 LS2 LS3 LS4 LS5 LS6 LS7 LS8 IS0 aY ++ w_Y cI cJ cZ aY VY0 LY0 LY1 LY2 IY0)) (hS : va_S A s.heap H locs) (ls : Array Slot) (hl : lv_has ls 3 [(0, .ref (aT 0)), (1, .int (nI x1_10)), (2, .int (nI x2_41))]) (hR : f_Shortage_clear_h41 VS2 VS0 NS0 NS1 NS2 IS0 x1_10 k_41 n x2_41 LT0_41 = r0), W p l e (headSpec u_Shortage_clear ({ frames := 2, cells := 0, slots := 0, locals := 45 })).room s m ([.ref (aT 0)]).toArray below meth c H locs 0 0 (hh_Zv below (dC, dI) vwCl [(cI, .int), (cJ, .long), (cZ, .boolean)] A (w_T cI cJ cZ aT VT0 NT0 NT1 r0 IT0 aS ++ w_S cI cJ cZ aS VS0 VS1 VS2 NS0 NS1 NS2 LS0 LS1 LS2 LS3 LS4 LS5 LS6 LS7 LS8 IS0 aY ++ w_Y cI cJ cZ aY VY0 LY0 LY1 LY2 IY0) ([.ref (aT 0)]).toArray s) (F0 m 41 ls []) := by
          intro n
          induction n with
          | zero =>
            intro x2_41 LT0_41 hi hfu H locs hP hD hS ls hl hR
            exact absurd hfu (Nat.not_lt_zero _)
          | succ n ih_41 =>
            intro x2_41 LT0_41 hi hfu H locs hP hD hS ls hl hR
            rw [f_Shortage_clear_h41] at hR
            obtain ⟨rec_41, hrec_41, hR⟩ : ∃ r, r = _ ∧ f_Shortage_clear_h41B VS2 VS0 NS0 NS1 NS2 IS0 x1_10 k_41 r x2_41 LT0_41 = r0 := ⟨_, rfl, hR⟩
            unfold f_Shortage_clear_h41B at hR
            refine lv_iload_n hx hb d_Shortage_clear_41 rfl (lv_at hl 2 rfl) ?_
            refine lv_aload_n hx hb d_Shortage_clear_42 rfl (lv_at hl 0 rfl) ?_
            refine va_get (D := (dC, dI)) (ci := 1) (v := .ref (aS 0)) (C := R_Shortage) (T := T_Shortage) (N := 6) hx hb hG in_Shortage hown hK hP 0 rfl rfl 0 (by decide) (hG _ m_175) (fun _ h9 => h9) rfl d_Shortage_clear_43 ?_
            refine va_get (D := (dC, dI)) (ci := 2) (v := .int (nI VS2)) (C := R_Site) (T := T_Site) (N := 17) hx hb hG in_Site hown hK hP 5 rfl rfl 2 (by decide) (hG _ m_60) (fun _ h9 => h9) rfl d_Shortage_clear_46 ?_
            refine hw_icmp_ge (tgt := 91) hx hb d_Shortage_clear_49 (by decide) (by omega) (by omega) (fun c49 => ?_) (fun c49 => ?_)
            · replace hR := (if_pos c49).symm.trans hR
              exact X_41 x2_41 LT0_41 (by first | assumption | omega | exact hw_upb (by assumption) (by omega)) H locs hP hD hS ls (lv_sub hl [0, 1, 2] rfl) hR
            · replace hR := (if_neg c49).symm.trans hR
              refine lv_aload_n hx hb d_Shortage_clear_52 rfl (lv_at hl 0 rfl) ?_
              refine va_get (D := (dC, dI)) (ci := 1) (v := .ref (aT 2)) (C := R_Shortage) (T := T_Shortage) (N := 6) hx hb hG in_Shortage hown hK hP 0 rfl rfl 3 (by decide) (hG _ m_180) (fun _ h9 => h9) rfl d_Shortage_clear_53 ?_
              refine lv_iload_n hx hb d_Shortage_clear_56 rfl (lv_at hl 1 rfl) ?_
              refine lv_bipush (v := nI 34) hx hb d_Shortage_clear_57 (by decide) ?_
              refine hw_imul hx hb d_Shortage_clear_59 ?_
              refine lv_bipush (v := nI 12) hx hb d_Shortage_clear_60 (by decide) ?_
              refine hw_iadd hx hb d_Shortage_clear_62 ?_
              refine lv_iload_n hx hb d_Shortage_clear_63 rfl (lv_at hl 2 rfl) ?_
              refine hw_iadd hx hb d_Shortage_clear_64 ?_
              refine lv_aload_n hx hb d_Shortage_clear_65 rfl (lv_at hl 0 rfl) ?_
              refine va_get (D := (dC, dI)) (ci := 1) (v := .ref (aS 0)) (C := R_Shortage) (T := T_Shortage) (N := 6) hx hb hG in_Shortage hown hK hP 0 rfl rfl 0 (by decide) (hG _ m_175) (fun _ h9 => h9) rfl d_Shortage_clear_66 ?_
              refine lv_iload_n hx hb d_Shortage_clear_69 rfl (lv_at hl 1 rfl) ?_
              refine lv_iload_n hx hb d_Shortage_clear_70 rfl (lv_at hl 2 rfl) ?_
              obtain ⟨y71, hy71, hR⟩ := hw_bind hR
              have hM := c_Site_serves l dC dI cI cJ cZ H.size aS VS0 VS1 VS2 NS0 NS1 NS2 LS0 LS1 LS2 LS3 LS4 LS5 LS6 LS7 LS8 IS0 aY VY0 LY0 LY1 LY2 IY0 x1_10 x2_41 (by first | assumption | omega) (by first | assumption | omega) (by first | assumption | omega) (by first | assumption | omega) (by first | assumption | omega) (by first | assumption | omega)
              rw [hy71] at hM
              refine hw_callVi (As := [.int (nI x1_10), .int (nI x2_41)]) (rest := [.int (nI (((x1_10 * 34) + 12) + x2_41)), .ref (aT 2)]) (wr := w_T cI cJ cZ aT VT0 NT0 NT1 LT0_41 IT0 aS) ⟨hx, hb, hml, hown, hG⟩ hM (hw_cwV 2 hG m_594 m_388 m_389 m_2 m_390 rfl rfl (by decide +kernel) ⟨Nat.le_of_ble_eq_true rfl, Nat.le_of_ble_eq_true rfl⟩) hK hP hD hS hA [5, 6, 7, 8, 9, 10, 11, 12, 13, 14, 15, 16, 17, 18, 19, 20, 21, 22, 23] [0, 1, 2, 3, 4] rfl rfl (by decide) (by decide) (by decide) (hw_recv hK hP 5 rfl rfl) rfl hl.1 rfl (Nat.le_of_ble_eq_true rfl) d_Shortage_clear_71 ⟨Nat.le_of_ble_eq_true rfl, Nat.le_of_ble_eq_true rfl⟩ (fun H locs hP hD hS => ?_)
              have hP : va_P (dC, dI) vwCl (w_T cI cJ cZ aT VT0 NT0 NT1 LT0_41 IT0 aS ++ w_S cI cJ cZ aS VS0 VS1 VS2 NS0 NS1 NS2 LS0 LS1 LS2 LS3 LS4 LS5 LS6 LS7 LS8 IS0 aY ++ w_Y cI cJ cZ aY VY0 LY0 LY1 LY2 IY0) H := hP
              have hD : va_D A (w_T cI cJ cZ aT VT0 NT0 NT1 LT0_41 IT0 aS ++ w_S cI cJ cZ aS VS0 VS1 VS2 NS0 NS1 NS2 LS0 LS1 LS2 LS3 LS4 LS5 LS6 LS7 LS8 IS0 aY ++ w_Y cI cJ cZ aY VY0 LY0 LY1 LY2 IY0) := hD
              refine lv_if_eq (tgt := 83) hx hb d_Shortage_clear_74 (by decide) (fun c74 => ?_) (fun c74 => ?_)
              · replace hR := (if_pos c74).symm.trans hR
                refine lv_lconst (v := 0) hx hb d_Shortage_clear_83 (by decide) ?_
                refine hw_last (f := LT0_41) hx hb hK hP hD hS 2 1 rfl rfl (by decide) (by omega) d_Shortage_clear_84 (fun H locs hP hD hS => ?_)
                have hP : va_P (dC, dI) vwCl (w_T cI cJ cZ aT VT0 NT0 NT1 (vp_updL LT0_41 (((x1_10 * 34) + 12) + x2_41) 0) IT0 aS ++ w_S cI cJ cZ aS VS0 VS1 VS2 NS0 NS1 NS2 LS0 LS1 LS2 LS3 LS4 LS5 LS6 LS7 LS8 IS0 aY ++ w_Y cI cJ cZ aY VY0 LY0 LY1 LY2 IY0) H := hP
                have hD : va_D A (w_T cI cJ cZ aT VT0 NT0 NT1 (vp_updL LT0_41 (((x1_10 * 34) + 12) + x2_41) 0) IT0 aS ++ w_S cI cJ cZ aS VS0 VS1 VS2 NS0 NS1 NS2 LS0 LS1 LS2 LS3 LS4 LS5 LS6 LS7 LS8 IS0 aY ++ w_Y cI cJ cZ aY VY0 LY0 LY1 LY2 IY0) := hD
                refine lv_iinc (v := nI (x2_41 + 1)) (lv' := [(2, .int (nI (x2_41 + 1))), (0, .ref (aT 0)), (1, .int (nI x1_10))]) hx hb d_Shortage_clear_85 hl (k := 2) rfl (hw_inc _ 1) (by decide) rfl (fun ls hl => ?_)
                refine lv_goto (tgt := 41) hx hb d_Shortage_clear_88 (by decide) ?_
                rw [hrec_41] at hR
                exact ih_41 (x2_41 + 1) (vp_updL LT0_41 (((x1_10 * 34) + 12) + x2_41) 0) (by first | assumption | omega | exact hw_upb (by assumption) (by omega)) (by omega) H locs hP hD hS ls (lv_sub hl [1, 2, 0] rfl) hR
              · replace hR := (if_neg c74).symm.trans hR
                refine lv_ldc2 (v := 1099511627776) hx hb hown (hG _ m_595) d_Shortage_clear_77 ?_
                refine lv_goto (tgt := 84) hx hb d_Shortage_clear_80 (by decide) ?_
                refine hw_last (f := LT0_41) hx hb hK hP hD hS 2 1 rfl rfl (by decide) (by omega) d_Shortage_clear_84 (fun H locs hP hD hS => ?_)
                have hP : va_P (dC, dI) vwCl (w_T cI cJ cZ aT VT0 NT0 NT1 (vp_updL LT0_41 (((x1_10 * 34) + 12) + x2_41) 1099511627776) IT0 aS ++ w_S cI cJ cZ aS VS0 VS1 VS2 NS0 NS1 NS2 LS0 LS1 LS2 LS3 LS4 LS5 LS6 LS7 LS8 IS0 aY ++ w_Y cI cJ cZ aY VY0 LY0 LY1 LY2 IY0) H := hP
                have hD : va_D A (w_T cI cJ cZ aT VT0 NT0 NT1 (vp_updL LT0_41 (((x1_10 * 34) + 12) + x2_41) 1099511627776) IT0 aS ++ w_S cI cJ cZ aS VS0 VS1 VS2 NS0 NS1 NS2 LS0 LS1 LS2 LS3 LS4 LS5 LS6 LS7 LS8 IS0 aY ++ w_Y cI cJ cZ aY VY0 LY0 LY1 LY2 IY0) := hD
                refine lv_iinc (v := nI (x2_41 + 1)) (lv' := [(2, .int (nI (x2_41 + 1))), (0, .ref (aT 0)), (1, .int (nI x1_10))]) hx hb d_Shortage_clear_85 hl (k := 2) rfl (hw_inc _ 1) (by decide) rfl (fun ls hl => ?_)
                refine lv_goto (tgt := 41) hx hb d_Shortage_clear_88 (by decide) ?_
                rw [hrec_41] at hR
                exact ih_41 (x2_41 + 1) (vp_updL LT0_41 (((x1_10 * 34) + 12) + x2_41) 1099511627776) (by first | assumption | omega | exact hw_upb (by assumption) (by omega)) (by omega) H locs hP hD hS ls (lv_sub hl [1, 2, 0] rfl) hR
        exact L_41 9 0 (vp_updL LT0_10 (1088 + x1_10) y35) (by first | assumption | omega | exact hw_upb (by assumption) (by omega)) (by omega) H locs hP hD hS ls (lv_sub hl [1, 2, 0] rfl) hR
  exact L_10 13 0 (hh_fillJ 1156 LT0 0) (by first | assumption | omega | exact hw_upb (by assumption) (by omega)) (by omega) H locs hP hD hS ls (lv_sub hl [1, 0] rfl) hR
def f_Shortage_canReach_h65B (LT0 : Nat → Int64) (NT1_27 : Nat → Nat) (x4_27 : Nat) (k_65 : (Nat) → (Nat) → (Nat → Int32) → (Nat → Nat) → Int32 × (Nat → Int32) × (Nat → Nat)) (rec_65 : (Nat) → (Nat) → (Nat → Int32) → (Nat → Nat) → Int32 × (Nat → Int32) × (Nat → Nat)) (x3_65 : Nat) (x6_65 : Nat) (IT0_65 : Nat → Int32) (NT1_65 : Nat → Nat) : Int32 × (Nat → Int32) × (Nat → Nat) :=
  if 34 ≤ x6_65 then (k_65 x3_65 x6_65 IT0_65 NT1_65) else (if (LT0 (((NT1_27 x4_27) * 34) + x6_65)) ≤ 0 then (rec_65 x3_65 (x6_65 + 1) IT0_65 NT1_65) else (if (IT0_65 x6_65) = (-1) then (if 34 ≤ x3_65 then (rec_65 x3_65 (x6_65 + 1) IT0_65 NT1_65) else (rec_65 (x3_65 + 1) (x6_65 + 1) (upd IT0_65 x6_65 (nI (NT1_65 x4_27))) (va_up NT1_65 x3_65 x6_65))) else (rec_65 x3_65 (x6_65 + 1) IT0_65 NT1_65)))
def f_Shortage_canReach_h65 (LT0 : Nat → Int64) (NT1_27 : Nat → Nat) (x4_27 : Nat) (k_65 : (Nat) → (Nat) → (Nat → Int32) → (Nat → Nat) → Int32 × (Nat → Int32) × (Nat → Nat)) : Nat → (Nat) → (Nat) → (Nat → Int32) → (Nat → Nat) → Int32 × (Nat → Int32) × (Nat → Nat)
  | 0, x3_65, x6_65, IT0_65, NT1_65 => k_65 x3_65 x6_65 IT0_65 NT1_65
  | n + 1, x3_65, x6_65, IT0_65, NT1_65 => f_Shortage_canReach_h65B LT0 NT1_27 x4_27 k_65 (fun x3_65 x6_65 IT0_65 NT1_65 => f_Shortage_canReach_h65 LT0 NT1_27 x4_27 k_65 n x3_65 x6_65 IT0_65 NT1_65) x3_65 x6_65 IT0_65 NT1_65
def f_Shortage_canReach_x65 (rec_27 : (Nat) → (Nat) → (Nat → Int32) → (Nat → Nat) → Int32 × (Nat → Int32) × (Nat → Nat)) (x4_27 : Nat) (x3_65 : Nat) (x6_65 : Nat) (IT0_65 : Nat → Int32) (NT1_65 : Nat → Nat) : Int32 × (Nat → Int32) × (Nat → Nat) :=
  rec_27 x3_65 (x4_27 + 1) IT0_65 NT1_65
def f_Shortage_canReach_h27B (x2 : Nat) (LT0 : Nat → Int64) (k_27 : (Nat) → (Nat) → (Nat → Int32) → (Nat → Nat) → Int32 × (Nat → Int32) × (Nat → Nat)) (rec_27 : (Nat) → (Nat) → (Nat → Int32) → (Nat → Nat) → Int32 × (Nat → Int32) × (Nat → Nat)) (x3_27 : Nat) (x4_27 : Nat) (IT0_27 : Nat → Int32) (NT1_27 : Nat → Nat) : Int32 × (Nat → Int32) × (Nat → Nat) :=
  if x3_27 ≤ x4_27 then (k_27 x3_27 x4_27 IT0_27 NT1_27) else (if 34 ≤ x4_27 then (k_27 x3_27 x4_27 IT0_27 NT1_27) else (if (IT0_27 x2) = (-1) then (f_Shortage_canReach_h65 LT0 NT1_27 x4_27 (f_Shortage_canReach_x65 rec_27 x4_27) 35 x3_27 0 IT0_27 NT1_27) else (k_27 x3_27 x4_27 IT0_27 NT1_27)))
def f_Shortage_canReach_h27 (x2 : Nat) (LT0 : Nat → Int64) (k_27 : (Nat) → (Nat) → (Nat → Int32) → (Nat → Nat) → Int32 × (Nat → Int32) × (Nat → Nat)) : Nat → (Nat) → (Nat) → (Nat → Int32) → (Nat → Nat) → Int32 × (Nat → Int32) × (Nat → Nat)
  | 0, x3_27, x4_27, IT0_27, NT1_27 => k_27 x3_27 x4_27 IT0_27 NT1_27
  | n + 1, x3_27, x4_27, IT0_27, NT1_27 => f_Shortage_canReach_h27B x2 LT0 k_27 (fun x3_27 x4_27 IT0_27 NT1_27 => f_Shortage_canReach_h27 x2 LT0 k_27 n x3_27 x4_27 IT0_27 NT1_27) x3_27 x4_27 IT0_27 NT1_27
def f_Shortage_canReach_x27 (x2 : Nat) (x3_27 : Nat) (x4_27 : Nat) (IT0_27 : Nat → Int32) (NT1_27 : Nat → Nat) : Int32 × (Nat → Int32) × (Nat → Nat) :=
  if (IT0_27 x2) = (-1) then (nI 0, IT0_27, NT1_27) else (nI 1, IT0_27, NT1_27)
def f_Shortage_canReach (NT1 : Nat → Nat) (LT0 : Nat → Int64) (IT0 : Nat → Int32) (x1 : Nat) (x2 : Nat) : Int32 × (Nat → Int32) × (Nat → Nat) :=
  f_Shortage_canReach_h27 x2 LT0 (f_Shortage_canReach_x27 x2) 35 1 0 (upd (hh_fillI 34 IT0 (-1)) x1 (nI x1)) (va_up NT1 0 x1)
set_option maxHeartbeats 4000000 in
set_option maxRecDepth 100000 in
theorem c_Shortage_canReach (l : Launch) (dC : Nat → ClassId) (dI : Nat → Nat → Nat) (cI cJ cZ : ClassId) (sz : Nat) (aT : Nat → Nat) (VT0 : Nat) (NT0 : Nat → Nat) (NT1 : Nat → Nat) (LT0 : Nat → Int64) (IT0 : Nat → Int32) (aS : Nat → Nat) (VS0 : Nat) (VS1 : Nat) (VS2 : Nat) (NS0 : Nat → Nat) (NS1 : Nat → Nat) (NS2 : Nat → Nat) (LS0 : Nat → Int64) (LS1 : Nat → Int64) (LS2 : Nat → Int64) (LS3 : Nat → Int64) (LS4 : Nat → Int64) (LS5 : Nat → Int64) (LS6 : Nat → Int64) (LS7 : Nat → Int64) (LS8 : Nat → Int64) (IS0 : Nat → Int32) (aY : Nat → Nat) (VY0 : Nat) (LY0 : Nat → Int64) (LY1 : Nat → Int64) (LY2 : Nat → Int64) (IY0 : Nat → Int32) (x1 : Nat) (x2 : Nat) (htq : ∀ i, NT1 i < 34) (hx1 : x1 < 34) (hx2 : x2 < 34) : hh_Ci l y_Shortage_canReach u_Shortage_canReach ({ frames := 1, cells := 0, slots := 0, locals := 23 }) (dC, dI) vwCl [(cI, .int), (cJ, .long), (cZ, .boolean)] (w_T cI cJ cZ aT VT0 NT0 NT1 LT0 IT0 aS ++ w_S cI cJ cZ aS VS0 VS1 VS2 NS0 NS1 NS2 LS0 LS1 LS2 LS3 LS4 LS5 LS6 LS7 LS8 IS0 aY ++ w_Y cI cJ cZ aY VY0 LY0 LY1 LY2 IY0) sz [.ref (aT 0), .int (nI x1), .int (nI x2)] ((f_Shortage_canReach NT1 LT0 IT0 x1 x2).1) (w_T cI cJ cZ aT VT0 NT0 ((f_Shortage_canReach NT1 LT0 IT0 x1 x2).2.2) LT0 ((f_Shortage_canReach NT1 LT0 IT0 x1 x2).2.1) aS ++ w_S cI cJ cZ aS VS0 VS1 VS2 NS0 NS1 NS2 LS0 LS1 LS2 LS3 LS4 LS5 LS6 LS7 LS8 IS0 aY ++ w_Y cI cJ cZ aY VY0 LY0 LY1 LY2 IY0) 0 0 := by
  unfold hh_Ci
  refine Met.ofW (cc := b_Shortage_canReach) (maxL := 7) (ret := (some .boolean)) (by decide) rfl ?_
  intro p e s m args below meth c s₁ B hml hv
  obtain ⟨rfl, hsz, hP, hK, hD0⟩ := hv
  have hx := B.exec
  have hb := B.bytes
  have hr := B.returns
  have hts := atoms_spec (ws := u_Shortage_canReach) B.pre
  have hG : ∀ w ∈ wG, w.before ([.ref (aT 0), .int (nI x1), .int (nI x2)]).toArray s = true := fun w h => hts w (List.mem_cons_of_mem _ h)
  have hown : s.vm.findClass R_Shortage = some m.cls := findClass_of_methodNamed B.named
  have hlocks := B.notSynchronized
  subst hsz
  have hD := hD0.self (sz := s.heap.size)
  generalize hAe : va_A (w_T cI cJ cZ aT VT0 NT0 NT1 LT0 IT0 aS ++ w_S cI cJ cZ aS VS0 VS1 VS2 NS0 NS1 NS2 LS0 LS1 LS2 LS3 LS4 LS5 LS6 LS7 LS8 IS0 aY ++ w_Y cI cJ cZ aY VY0 LY0 LY1 LY2 IY0) s.heap.size = A at hD ⊢
  have hA : ∀ q : Nat, s.heap.size ≤ q → A q := fun q h => by rw [← hAe]; exact Or.inr h
  have hS : va_S A s.heap s.heap [] := va_S.rf
  have hl := lv_entry ([.ref (aT 0), .int (nI x1), .int (nI x2)]) (n := 7) (Nat.le_of_ble_eq_true rfl)
  rw [lg_entry_eq]
  generalize (lg_sl ([.ref (aT 0), .int (nI x1), .int (nI x2)]) ++ List.replicate (7 - (lg_sl ([.ref (aT 0), .int (nI x1), .int (nI x2)])).length) Slot.unset).toArray = ls at hl ⊢
  have hl : lv_has ls 7 [(0, .ref (aT 0)), (1, .int (nI x1)), (2, .int (nI x2))] := hl
  generalize hR : f_Shortage_canReach NT1 LT0 IT0 x1 x2 = r0
  obtain ⟨H, locs, hHe, hle⟩ : ∃ (H : Heap) (locs : List Loc), s.heap = H ∧ [] = locs := ⟨_, _, rfl, rfl⟩
  have hP : va_P (dC, dI) vwCl (w_T cI cJ cZ aT VT0 NT0 NT1 LT0 IT0 aS ++ w_S cI cJ cZ aS VS0 VS1 VS2 NS0 NS1 NS2 LS0 LS1 LS2 LS3 LS4 LS5 LS6 LS7 LS8 IS0 aY ++ w_Y cI cJ cZ aY VY0 LY0 LY1 LY2 IY0) H := by rw [← hHe]; exact hP
  have hS : va_S A s.heap H locs := by rw [← hHe, ← hle]; exact hS
  refine hw_start hHe hle ?_
  unfold f_Shortage_canReach at hR
  refine lv_aload_n hx hb d_Shortage_canReach_0 rfl (lv_at hl 0 rfl) ?_
  refine va_get (D := (dC, dI)) (ci := 1) (v := .ref (aT 3)) (C := R_Shortage) (T := T_Shortage) (N := 6) hx hb hG in_Shortage hown hK hP 0 rfl rfl 4 (by decide) (hG _ m_181) (fun _ h9 => h9) rfl d_Shortage_canReach_1 ?_
  refine lv_iconst (v := (-1)) hx hb d_Shortage_canReach_4 (by decide) ?_
  have hM := c_Arrays_fillI l dC dI cI cJ cZ H.size (aT 3) 34 (by decide) IT0 (-1)
  refine hw_callSv (As := [.ref (aT 3), .int (-1)]) (rest := []) (wr := (w_T cI cJ cZ aT VT0 NT0 NT1 LT0 IT0 aS ++ w_S cI cJ cZ aS VS0 VS1 VS2 NS0 NS1 NS2 LS0 LS1 LS2 LS3 LS4 LS5 LS6 LS7 LS8 IS0 aY ++ w_Y cI cJ cZ aY VY0 LY0 LY1 LY2 IY0).eraseIdx 3) ⟨hx, hb, hml, hown, hG⟩ hM (hw_cwS 2 hG m_601 m_565 m_4 m_566 rfl rfl (by decide +kernel) ⟨Nat.le_of_ble_eq_true rfl, Nat.le_of_ble_eq_true rfl⟩) hK hP hD hS hA [3] [0, 1, 2, 4, 5, 6, 7, 8, 9, 10, 11, 12, 13, 14, 15, 16, 17, 18, 19, 20, 21, 22, 23] rfl rfl (by decide) (by decide) (by decide) rfl hl.1 rfl (Nat.le_of_ble_eq_true rfl) d_Shortage_canReach_5 ⟨Nat.le_of_ble_eq_true rfl, Nat.le_of_ble_eq_true rfl⟩ (fun H locs hP hD hS => ?_)
  have hP : va_P (dC, dI) vwCl (w_T cI cJ cZ aT VT0 NT0 NT1 LT0 (hh_fillI 34 IT0 (-1)) aS ++ w_S cI cJ cZ aS VS0 VS1 VS2 NS0 NS1 NS2 LS0 LS1 LS2 LS3 LS4 LS5 LS6 LS7 LS8 IS0 aY ++ w_Y cI cJ cZ aY VY0 LY0 LY1 LY2 IY0) H := hP.sub [0, 1, 2, 23, 3, 4, 5, 6, 7, 8, 9, 10, 11, 12, 13, 14, 15, 16, 17, 18, 19, 20, 21, 22] rfl
  have hD : va_D A (w_T cI cJ cZ aT VT0 NT0 NT1 LT0 (hh_fillI 34 IT0 (-1)) aS ++ w_S cI cJ cZ aS VS0 VS1 VS2 NS0 NS1 NS2 LS0 LS1 LS2 LS3 LS4 LS5 LS6 LS7 LS8 IS0 aY ++ w_Y cI cJ cZ aY VY0 LY0 LY1 LY2 IY0) := hD.sub [0, 1, 2, 23, 3, 4, 5, 6, 7, 8, 9, 10, 11, 12, 13, 14, 15, 16, 17, 18, 19, 20, 21, 22] (by decide) rfl
  refine lv_aload_n hx hb d_Shortage_canReach_8 rfl (lv_at hl 0 rfl) ?_
  refine va_get (D := (dC, dI)) (ci := 1) (v := .ref (aT 3)) (C := R_Shortage) (T := T_Shortage) (N := 6) hx hb hG in_Shortage hown hK hP 0 rfl rfl 4 (by decide) (hG _ m_181) (fun _ h9 => h9) rfl d_Shortage_canReach_9 ?_
  refine lv_iload_n hx hb d_Shortage_canReach_12 rfl (lv_at hl 1 rfl) ?_
  refine lv_iload_n hx hb d_Shortage_canReach_13 rfl (lv_at hl 1 rfl) ?_
  refine hw_iast (f := (hh_fillI 34 IT0 (-1))) hx hb hK hP hD hS 3 0 rfl rfl (by decide) (by omega) d_Shortage_canReach_14 (fun H locs hP hD hS => ?_)
  have hP : va_P (dC, dI) vwCl (w_T cI cJ cZ aT VT0 NT0 NT1 LT0 (upd (hh_fillI 34 IT0 (-1)) x1 (nI x1)) aS ++ w_S cI cJ cZ aS VS0 VS1 VS2 NS0 NS1 NS2 LS0 LS1 LS2 LS3 LS4 LS5 LS6 LS7 LS8 IS0 aY ++ w_Y cI cJ cZ aY VY0 LY0 LY1 LY2 IY0) H := hP
  have hD : va_D A (w_T cI cJ cZ aT VT0 NT0 NT1 LT0 (upd (hh_fillI 34 IT0 (-1)) x1 (nI x1)) aS ++ w_S cI cJ cZ aS VS0 VS1 VS2 NS0 NS1 NS2 LS0 LS1 LS2 LS3 LS4 LS5 LS6 LS7 LS8 IS0 aY ++ w_Y cI cJ cZ aY VY0 LY0 LY1 LY2 IY0) := hD
  refine lv_aload_n hx hb d_Shortage_canReach_15 rfl (lv_at hl 0 rfl) ?_
  refine va_get (D := (dC, dI)) (ci := 1) (v := .ref (aT 4)) (C := R_Shortage) (T := T_Shortage) (N := 6) hx hb hG in_Shortage hown hK hP 0 rfl rfl 5 (by decide) (hG _ m_182) (fun _ h9 => h9) rfl d_Shortage_canReach_16 ?_
  refine lv_iconst (v := nI 0) hx hb d_Shortage_canReach_19 (by decide) ?_
  refine lv_iload_n hx hb d_Shortage_canReach_20 rfl (lv_at hl 1 rfl) ?_
  refine hw_nast (g := NT1) hx hb hK hP hD hS 4 0 rfl rfl (by decide) (by omega) d_Shortage_canReach_21 (fun H locs hP hD hS => ?_)
  have hP : va_P (dC, dI) vwCl (w_T cI cJ cZ aT VT0 NT0 (va_up NT1 0 x1) LT0 (upd (hh_fillI 34 IT0 (-1)) x1 (nI x1)) aS ++ w_S cI cJ cZ aS VS0 VS1 VS2 NS0 NS1 NS2 LS0 LS1 LS2 LS3 LS4 LS5 LS6 LS7 LS8 IS0 aY ++ w_Y cI cJ cZ aY VY0 LY0 LY1 LY2 IY0) H := hP
  have hD : va_D A (w_T cI cJ cZ aT VT0 NT0 (va_up NT1 0 x1) LT0 (upd (hh_fillI 34 IT0 (-1)) x1 (nI x1)) aS ++ w_S cI cJ cZ aS VS0 VS1 VS2 NS0 NS1 NS2 LS0 LS1 LS2 LS3 LS4 LS5 LS6 LS7 LS8 IS0 aY ++ w_Y cI cJ cZ aY VY0 LY0 LY1 LY2 IY0) := hD
  refine lv_iconst (v := nI 1) hx hb d_Shortage_canReach_22 (by decide) ?_
  refine lv_istore_n (lv' := [(3, .int (nI 1)), (0, .ref (aT 0)), (1, .int (nI x1)), (2, .int (nI x2))]) hx hb d_Shortage_canReach_23 rfl hl (by decide) rfl (fun ls hl => ?_)
  refine lv_iconst (v := nI 0) hx hb d_Shortage_canReach_24 (by decide) ?_
  refine lv_istore (lv' := [(4, .int (nI 0)), (3, .int (nI 1)), (0, .ref (aT 0)), (1, .int (nI x1)), (2, .int (nI x2))]) hx hb d_Shortage_canReach_25 hl (by decide) rfl (fun ls hl => ?_)
  obtain ⟨k_27, hk_27, hR⟩ : ∃ k, (f_Shortage_canReach_x27 x2) = k ∧ f_Shortage_canReach_h27 x2 LT0 k 35 1 0 (upd (hh_fillI 34 IT0 (-1)) x1 (nI x1)) (va_up NT1 0 x1) = r0 := ⟨_, rfl, hR⟩
  have X_27 : ∀ (x3_27 : Nat) (x4_27 : Nat) (IT0_27 : Nat → Int32) (NT1_27 : Nat → Nat) (hi : x4_27 ≤ 34) (hq3 : x3_27 ≤ 34) (htq : ∀ i, NT1_27 i < 34) (H : Heap) (locs : List Loc) (hP : va_P (dC, dI) vwCl (w_T cI cJ cZ aT VT0 NT0 NT1_27 LT0 IT0_27 aS ++ w_S cI cJ cZ aS VS0 VS1 VS2 NS0 NS1 NS2 LS0 LS1 LS2 LS3 LS4 LS5 LS6 LS7 LS8 IS0 aY ++ w_Y cI cJ cZ aY VY0 LY0 LY1 LY2 IY0) H) (hD : va_D A (w_T cI cJ cZ aT VT0 NT0 NT1_27 LT0 IT0_27 aS ++ w_S cI cJ cZ aS VS0 VS1 VS2 NS0 NS1 NS2 LS0 LS1 LS2 LS3 LS4 LS5 LS6 LS7 LS8 IS0 aY ++ w_Y cI cJ cZ aY VY0 LY0 LY1 LY2 IY0)) (hS : va_S A s.heap H locs) (ls : Array Slot) (hl : lv_has ls 7 [(0, .ref (aT 0)), (1, .int (nI x1)), (2, .int (nI x2)), (3, .int (nI x3_27)), (4, .int (nI x4_27))]) (hR : k_27 x3_27 x4_27 IT0_27 NT1_27 = r0), W p l e (headSpec u_Shortage_canReach ({ frames := 1, cells := 0, slots := 0, locals := 23 })).room s m ([.ref (aT 0), .int (nI x1), .int (nI x2)]).toArray below meth c H locs 0 0 (hh_Zi below (dC, dI) vwCl [(cI, .int), (cJ, .long), (cZ, .boolean)] A r0.1 (w_T cI cJ cZ aT VT0 NT0 r0.2.2 LT0 r0.2.1 aS ++ w_S cI cJ cZ aS VS0 VS1 VS2 NS0 NS1 NS2 LS0 LS1 LS2 LS3 LS4 LS5 LS6 LS7 LS8 IS0 aY ++ w_Y cI cJ cZ aY VY0 LY0 LY1 LY2 IY0) ([.ref (aT 0), .int (nI x1), .int (nI x2)]).toArray s) (F0 m 141 ls []) := by
    intro x3_27 x4_27 IT0_27 NT1_27 hi hq3 htq H locs hP hD hS ls hl hR
    rw [← hk_27] at hR
    unfold f_Shortage_canReach_x27 at hR
    refine lv_aload_n hx hb d_Shortage_canReach_141 rfl (lv_at hl 0 rfl) ?_
    refine va_get (D := (dC, dI)) (ci := 1) (v := .ref (aT 3)) (C := R_Shortage) (T := T_Shortage) (N := 6) hx hb hG in_Shortage hown hK hP 0 rfl rfl 4 (by decide) (hG _ m_181) (fun _ h9 => h9) rfl d_Shortage_canReach_142 ?_
    refine lv_iload_n hx hb d_Shortage_canReach_145 rfl (lv_at hl 2 rfl) ?_
    refine hw_iald (f := IT0_27) hx hb hK hP 3 0 rfl rfl (by decide) (by omega) d_Shortage_canReach_146 ?_
    refine lv_iconst (v := (-1)) hx hb d_Shortage_canReach_147 (by decide) ?_
    refine lv_icmp_eq (tgt := 155) hx hb d_Shortage_canReach_148 (by decide) (fun c148 => ?_) (fun c148 => ?_)
    · replace hR := (if_pos c148).symm.trans hR
      refine lv_iconst (v := nI 0) hx hb d_Shortage_canReach_155 (by decide) ?_
      subst hR
      exact W.zret (v := nI 0) hx hb hr (by decide) (fun t ht hW => ⟨⟨_, (), rfl, rfl, by rw [ht]; exact hP, va_K.moved hW.alike hK, hD⟩, hS.F ht⟩) hS.2.2 d_Shortage_canReach_156
    · replace hR := (if_neg c148).symm.trans hR
      refine lv_iconst (v := nI 1) hx hb d_Shortage_canReach_151 (by decide) ?_
      refine lv_goto (tgt := 156) hx hb d_Shortage_canReach_152 (by decide) ?_
      subst hR
      exact W.zret (v := nI 1) hx hb hr (by decide) (fun t ht hW => ⟨⟨_, (), rfl, rfl, by rw [ht]; exact hP, va_K.moved hW.alike hK, hD⟩, hS.F ht⟩) hS.2.2 d_Shortage_canReach_156
  have L_27 : ∀ (n : Nat) (x3_27 : Nat) (x4_27 : Nat) (IT0_27 : Nat → Int32) (NT1_27 : Nat → Nat) (hi : x4_27 ≤ 34) (hq3 : x3_27 ≤ 34) (htq : ∀ i, NT1_27 i < 34) (hfu : 34 - x4_27 < n) (H : Heap) (locs : List Loc) (hP : va_P (dC, dI) vwCl (w_T cI cJ cZ aT VT0 NT0 NT1_27 LT0 IT0_27 aS ++ w_S cI cJ cZ aS VS0 VS1 VS2 NS0 NS1 NS2 LS0 LS1 LS2 LS3 LS4 LS5 LS6 LS7 LS8 IS0 aY ++ w_Y cI cJ cZ aY VY0 LY0 LY1 LY2 IY0) H) (hD : va_D A (w_T cI cJ cZ aT VT0 NT0 NT1_27 LT0 IT0_27 aS ++ w_S cI cJ cZ aS VS0 VS1 VS2 NS0 NS1 NS2 LS0 LS1 LS2 LS3 LS4 LS5 LS6 LS7 LS8 IS0 aY ++ w_Y cI cJ cZ aY VY0 LY0 LY1 LY2 IY0)) (hS : va_S A s.heap H locs) (ls : Array Slot) (hl : lv_has ls 7 [(0, .ref (aT 0)), (1, .int (nI x1)), (2, .int (nI x2)), (3, .int (nI x3_27)), (4, .int (nI x4_27))]) (hR : f_Shortage_canReach_h27 x2 LT0 k_27 n x3_27 x4_27 IT0_27 NT1_27 = r0), W p l e (headSpec u_Shortage_canReach ({ frames := 1, cells := 0, slots := 0, locals := 23 })).room s m ([.ref (aT 0), .int (nI x1), .int (nI x2)]).toArray below meth c H locs 0 0 (hh_Zi below (dC, dI) vwCl [(cI, .int), (cJ, .long), (cZ, .boolean)] A r0.1 (w_T cI cJ cZ aT VT0 NT0 r0.2.2 LT0 r0.2.1 aS ++ w_S cI cJ cZ aS VS0 VS1 VS2 NS0 NS1 NS2 LS0 LS1 LS2 LS3 LS4 LS5 LS6 LS7 LS8 IS0 aY ++ w_Y cI cJ cZ aY VY0 LY0 LY1 LY2 IY0) ([.ref (aT 0), .int (nI x1), .int (nI x2)]).toArray s) (F0 m 27 ls []) := by
    intro n
    induction n with
    | zero =>
      intro x3_27 x4_27 IT0_27 NT1_27 hi hq3 htq hfu H locs hP hD hS ls hl hR
      exact absurd hfu (Nat.not_lt_zero _)
    | succ n ih_27 =>
      intro x3_27 x4_27 IT0_27 NT1_27 hi hq3 htq hfu H locs hP hD hS ls hl hR
      rw [f_Shortage_canReach_h27] at hR
      obtain ⟨rec_27, hrec_27, hR⟩ : ∃ r, r = _ ∧ f_Shortage_canReach_h27B x2 LT0 k_27 r x3_27 x4_27 IT0_27 NT1_27 = r0 := ⟨_, rfl, hR⟩
      unfold f_Shortage_canReach_h27B at hR
      refine lv_iload hx hb d_Shortage_canReach_27 (lv_at hl 4 rfl) ?_
      refine lv_iload_n hx hb d_Shortage_canReach_29 rfl (lv_at hl 3 rfl) ?_
      refine hw_icmp_ge (tgt := 141) hx hb d_Shortage_canReach_30 (by decide) (by omega) (by omega) (fun c30 => ?_) (fun c30 => ?_)
      · replace hR := (if_pos c30).symm.trans hR
        exact X_27 x3_27 x4_27 IT0_27 NT1_27 (by first | assumption | omega | exact hw_upb (by assumption) (by omega)) (by first | assumption | omega | exact hw_upb (by assumption) (by omega)) (by first | assumption | omega | exact hw_upb (by assumption) (by omega)) H locs hP hD hS ls (lv_sub hl [0, 1, 2, 3, 4] rfl) hR
      · replace hR := (if_neg c30).symm.trans hR
        refine lv_iload hx hb d_Shortage_canReach_33 (lv_at hl 4 rfl) ?_
        refine lv_bipush (v := nI 34) hx hb d_Shortage_canReach_35 (by decide) ?_
        refine hw_icmp_ge (tgt := 141) hx hb d_Shortage_canReach_37 (by decide) (by omega) (by omega) (fun c37 => ?_) (fun c37 => ?_)
        · replace hR := (if_pos c37).symm.trans hR
          exact X_27 x3_27 x4_27 IT0_27 NT1_27 (by first | assumption | omega | exact hw_upb (by assumption) (by omega)) (by first | assumption | omega | exact hw_upb (by assumption) (by omega)) (by first | assumption | omega | exact hw_upb (by assumption) (by omega)) H locs hP hD hS ls (lv_sub hl [0, 1, 2, 3, 4] rfl) hR
        · replace hR := (if_neg c37).symm.trans hR
          refine lv_aload_n hx hb d_Shortage_canReach_40 rfl (lv_at hl 0 rfl) ?_
          refine va_get (D := (dC, dI)) (ci := 1) (v := .ref (aT 3)) (C := R_Shortage) (T := T_Shortage) (N := 6) hx hb hG in_Shortage hown hK hP 0 rfl rfl 4 (by decide) (hG _ m_181) (fun _ h9 => h9) rfl d_Shortage_canReach_41 ?_
          refine lv_iload_n hx hb d_Shortage_canReach_44 rfl (lv_at hl 2 rfl) ?_
          refine hw_iald (f := IT0_27) hx hb hK hP 3 0 rfl rfl (by decide) (by omega) d_Shortage_canReach_45 ?_
          refine lv_iconst (v := (-1)) hx hb d_Shortage_canReach_46 (by decide) ?_
          refine lv_icmp_ne (tgt := 141) hx hb d_Shortage_canReach_47 (by decide) (fun c47 => ?_) (fun c47 => ?_)
          · replace hR := (if_neg c47).symm.trans hR
            exact X_27 x3_27 x4_27 IT0_27 NT1_27 (by first | assumption | omega | exact hw_upb (by assumption) (by omega)) (by first | assumption | omega | exact hw_upb (by assumption) (by omega)) (by first | assumption | omega | exact hw_upb (by assumption) (by omega)) H locs hP hD hS ls (lv_sub hl [0, 1, 2, 3, 4] rfl) hR
          · replace hR := (if_pos c47).symm.trans hR
            refine lv_aload_n hx hb d_Shortage_canReach_50 rfl (lv_at hl 0 rfl) ?_
            refine va_get (D := (dC, dI)) (ci := 1) (v := .ref (aT 4)) (C := R_Shortage) (T := T_Shortage) (N := 6) hx hb hG in_Shortage hown hK hP 0 rfl rfl 5 (by decide) (hG _ m_182) (fun _ h9 => h9) rfl d_Shortage_canReach_51 ?_
            refine lv_iload hx hb d_Shortage_canReach_54 (lv_at hl 4 rfl) ?_
            refine hw_nald (g := NT1_27) hx hb hK hP 4 0 rfl rfl (by decide) (by omega) d_Shortage_canReach_56 ?_
            have hb56 := htq x4_27
            refine lv_bipush (v := nI 34) hx hb d_Shortage_canReach_57 (by decide) ?_
            refine hw_imul hx hb d_Shortage_canReach_59 ?_
            refine lv_istore (lv' := [(5, .int (nI ((NT1_27 x4_27) * 34))), (0, .ref (aT 0)), (1, .int (nI x1)), (2, .int (nI x2)), (3, .int (nI x3_27)), (4, .int (nI x4_27))]) hx hb d_Shortage_canReach_60 hl (by decide) rfl (fun ls hl => ?_)
            refine lv_iconst (v := nI 0) hx hb d_Shortage_canReach_62 (by decide) ?_
            refine lv_istore (lv' := [(6, .int (nI 0)), (5, .int (nI ((NT1_27 x4_27) * 34))), (0, .ref (aT 0)), (1, .int (nI x1)), (2, .int (nI x2)), (3, .int (nI x3_27)), (4, .int (nI x4_27))]) hx hb d_Shortage_canReach_63 hl (by decide) rfl (fun ls hl => ?_)
            obtain ⟨k_65, hk_65, hR⟩ : ∃ k, (f_Shortage_canReach_x65 rec_27 x4_27) = k ∧ f_Shortage_canReach_h65 LT0 NT1_27 x4_27 k 35 x3_27 0 IT0_27 NT1_27 = r0 := ⟨_, rfl, hR⟩
            have X_65 : ∀ (x3_65 : Nat) (x6_65 : Nat) (IT0_65 : Nat → Int32) (NT1_65 : Nat → Nat) (hi6 : x6_65 ≤ 34) (hq3 : x3_65 ≤ 34) (htq : ∀ i, NT1_65 i < 34) (H : Heap) (locs : List Loc) (hP : va_P (dC, dI) vwCl (w_T cI cJ cZ aT VT0 NT0 NT1_65 LT0 IT0_65 aS ++ w_S cI cJ cZ aS VS0 VS1 VS2 NS0 NS1 NS2 LS0 LS1 LS2 LS3 LS4 LS5 LS6 LS7 LS8 IS0 aY ++ w_Y cI cJ cZ aY VY0 LY0 LY1 LY2 IY0) H) (hD : va_D A (w_T cI cJ cZ aT VT0 NT0 NT1_65 LT0 IT0_65 aS ++ w_S cI cJ cZ aS VS0 VS1 VS2 NS0 NS1 NS2 LS0 LS1 LS2 LS3 LS4 LS5 LS6 LS7 LS8 IS0 aY ++ w_Y cI cJ cZ aY VY0 LY0 LY1 LY2 IY0)) (hS : va_S A s.heap H locs) (ls : Array Slot) (hl : lv_has ls 7 [(0, .ref (aT 0)), (1, .int (nI x1)), (2, .int (nI x2)), (3, .int (nI x3_65)), (4, .int (nI x4_27)), (5, .int (nI ((NT1_27 x4_27) * 34))), (6, .int (nI x6_65))]) (hR : k_65 x3_65 x6_65 IT0_65 NT1_65 = r0), W p l e (headSpec u_Shortage_canReach ({ frames := 1, cells := 0, slots := 0, locals := 23 })).room s m ([.ref (aT 0), .int (nI x1), .int (nI x2)]).toArray below meth c H locs 0 0 (hh_Zi below (dC, dI) vwCl [(cI, .int), (cJ, .long), (cZ, .boolean)] A r0.1 (w_T cI cJ cZ aT VT0 NT0 r0.2.2 LT0 r0.2.1 aS ++ w_S cI cJ cZ aS VS0 VS1 VS2 NS0 NS1 NS2 LS0 LS1 LS2 LS3 LS4 LS5 LS6 LS7 LS8 IS0 aY ++ w_Y cI cJ cZ aY VY0 LY0 LY1 LY2 IY0) ([.ref (aT 0), .int (nI x1), .int (nI x2)]).toArray s) (F0 m 135 ls []) := by
              intro x3_65 x6_65 IT0_65 NT1_65 hi6 hq3 htq H locs hP hD hS ls hl hR
              rw [← hk_65] at hR
              unfold f_Shortage_canReach_x65 at hR
              refine lv_iinc (v := nI (x4_27 + 1)) (lv' := [(4, .int (nI (x4_27 + 1))), (0, .ref (aT 0)), (1, .int (nI x1)), (2, .int (nI x2)), (3, .int (nI x3_65)), (5, .int (nI ((NT1_27 x4_27) * 34))), (6, .int (nI x6_65))]) hx hb d_Shortage_canReach_135 hl (k := 4) rfl (hw_inc _ 1) (by decide) rfl (fun ls hl => ?_)
              refine lv_goto (tgt := 27) hx hb d_Shortage_canReach_138 (by decide) ?_
              rw [hrec_27] at hR
              exact ih_27 x3_65 (x4_27 + 1) IT0_65 NT1_65 (by first | assumption | omega | exact hw_upb (by assumption) (by omega)) (by first | assumption | omega | exact hw_upb (by assumption) (by omega)) (by first | assumption | omega | exact hw_upb (by assumption) (by omega)) (by omega) H locs hP hD hS ls (lv_sub hl [1, 2, 3, 4, 0] rfl) hR
            have L_65 : ∀ (n : Nat) (x3_65 : Nat) (x6_65 : Nat) (IT0_65 : Nat → Int32) (NT1_65 : Nat → Nat) (hi6 : x6_65 ≤ 34) (hq3 : x3_65 ≤ 34) (htq : ∀ i, NT1_65 i < 34) (hfu : 34 - x6_65 < n) (H : Heap) (locs : List Loc) (hP : va_P (dC, dI) vwCl (w_T cI cJ cZ aT VT0 NT0 NT1_65 LT0 IT0_65 aS ++ w_S cI cJ cZ aS VS0 VS1 VS2 NS0 NS1 NS2 LS0 LS1 LS2 LS3 LS4 LS5 LS6 LS7 LS8 IS0 aY ++ w_Y cI cJ cZ aY VY0 LY0 LY1 LY2 IY0) H) (hD : va_D A (w_T cI cJ cZ aT VT0 NT0 NT1_65 LT0 IT0_65 aS ++ w_S cI cJ cZ aS VS0 VS1 VS2 NS0 NS1 NS2 LS0 LS1 LS2 LS3 LS4 LS5 LS6 LS7 LS8 IS0 aY ++ w_Y cI cJ cZ aY VY0 LY0 LY1 LY2 IY0)) (hS : va_S A s.heap H locs) (ls : Array Slot) (hl : lv_has ls 7 [(0, .ref (aT 0)), (1, .int (nI x1)), (2, .int (nI x2)), (3, .int (nI x3_65)), (4, .int (nI x4_27)), (5, .int (nI ((NT1_27 x4_27) * 34))), (6, .int (nI x6_65))]) (hR : f_Shortage_canReach_h65 LT0 NT1_27 x4_27 k_65 n x3_65 x6_65 IT0_65 NT1_65 = r0), W p l e (headSpec u_Shortage_canReach ({ frames := 1, cells := 0, slots := 0, locals := 23 })).room s m ([.ref (aT 0), .int (nI x1), .int (nI x2)]).toArray below meth c H locs 0 0 (hh_Zi below (dC, dI) vwCl [(cI, .int), (cJ, .long), (cZ, .boolean)] A r0.1 (w_T cI cJ cZ aT VT0 NT0 r0.2.2 LT0 r0.2.1 aS ++ w_S cI cJ cZ aS VS0 VS1 VS2 NS0 NS1 NS2 LS0 LS1 LS2 LS3 LS4 LS5 LS6 LS7 LS8 IS0 aY ++ w_Y cI cJ cZ aY VY0 LY0 LY1 LY2 IY0) ([.ref (aT 0), .int (nI x1), .int (nI x2)]).toArray s) (F0 m 65 ls []) := by
              intro n
              induction n with
              | zero =>
                intro x3_65 x6_65 IT0_65 NT1_65 hi6 hq3 htq hfu H locs hP hD hS ls hl hR
                exact absurd hfu (Nat.not_lt_zero _)
              | succ n ih_65 =>
                intro x3_65 x6_65 IT0_65 NT1_65 hi6 hq3 htq hfu H locs hP hD hS ls hl hR
                rw [f_Shortage_canReach_h65] at hR
                obtain ⟨rec_65, hrec_65, hR⟩ : ∃ r, r = _ ∧ f_Shortage_canReach_h65B LT0 NT1_27 x4_27 k_65 r x3_65 x6_65 IT0_65 NT1_65 = r0 := ⟨_, rfl, hR⟩
                unfold f_Shortage_canReach_h65B at hR
                refine lv_iload hx hb d_Shortage_canReach_65 (lv_at hl 6 rfl) ?_
                refine lv_bipush (v := nI 34) hx hb d_Shortage_canReach_67 (by decide) ?_
                refine hw_icmp_ge (tgt := 135) hx hb d_Shortage_canReach_69 (by decide) (by omega) (by omega) (fun c69 => ?_) (fun c69 => ?_)
                · replace hR := (if_pos c69).symm.trans hR
                  exact X_65 x3_65 x6_65 IT0_65 NT1_65 (by first | assumption | omega | exact hw_upb (by assumption) (by omega)) (by first | assumption | omega | exact hw_upb (by assumption) (by omega)) (by first | assumption | omega | exact hw_upb (by assumption) (by omega)) H locs hP hD hS ls (lv_sub hl [0, 1, 2, 3, 4, 5, 6] rfl) hR
                · replace hR := (if_neg c69).symm.trans hR
                  refine lv_aload_n hx hb d_Shortage_canReach_72 rfl (lv_at hl 0 rfl) ?_
                  refine va_get (D := (dC, dI)) (ci := 1) (v := .ref (aT 2)) (C := R_Shortage) (T := T_Shortage) (N := 6) hx hb hG in_Shortage hown hK hP 0 rfl rfl 3 (by decide) (hG _ m_180) (fun _ h9 => h9) rfl d_Shortage_canReach_73 ?_
                  refine lv_iload hx hb d_Shortage_canReach_76 (lv_at hl 5 rfl) ?_
                  refine lv_iload hx hb d_Shortage_canReach_78 (lv_at hl 6 rfl) ?_
                  refine hw_iadd hx hb d_Shortage_canReach_80 ?_
                  refine hw_lald (f := LT0) hx hb hK hP 2 1 rfl rfl (by decide) (by omega) d_Shortage_canReach_81 ?_
                  refine lv_lconst (v := 0) hx hb d_Shortage_canReach_82 (by decide) ?_
                  refine hw_lcmp_le (tgt := 129) hx hb d_Shortage_canReach_83 d_Shortage_canReach_84 (by decide) (fun c83 => ?_) (fun c83 => ?_)
                  · replace hR := (if_pos c83).symm.trans hR
                    refine lv_iinc (v := nI (x6_65 + 1)) (lv' := [(6, .int (nI (x6_65 + 1))), (0, .ref (aT 0)), (1, .int (nI x1)), (2, .int (nI x2)), (3, .int (nI x3_65)), (4, .int (nI x4_27)), (5, .int (nI ((NT1_27 x4_27) * 34)))]) hx hb d_Shortage_canReach_129 hl (k := 6) rfl (hw_inc _ 1) (by decide) rfl (fun ls hl => ?_)
                    refine lv_goto (tgt := 65) hx hb d_Shortage_canReach_132 (by decide) ?_
                    rw [hrec_65] at hR
                    exact ih_65 x3_65 (x6_65 + 1) IT0_65 NT1_65 (by first | assumption | omega | exact hw_upb (by assumption) (by omega)) (by first | assumption | omega | exact hw_upb (by assumption) (by omega)) (by first | assumption | omega | exact hw_upb (by assumption) (by omega)) (by omega) H locs hP hD hS ls (lv_sub hl [1, 2, 3, 4, 5, 6, 0] rfl) hR
                  · replace hR := (if_neg c83).symm.trans hR
                    refine lv_aload_n hx hb d_Shortage_canReach_87 rfl (lv_at hl 0 rfl) ?_
                    refine va_get (D := (dC, dI)) (ci := 1) (v := .ref (aT 3)) (C := R_Shortage) (T := T_Shortage) (N := 6) hx hb hG in_Shortage hown hK hP 0 rfl rfl 4 (by decide) (hG _ m_181) (fun _ h9 => h9) rfl d_Shortage_canReach_88 ?_
                    refine lv_iload hx hb d_Shortage_canReach_91 (lv_at hl 6 rfl) ?_
                    refine hw_iald (f := IT0_65) hx hb hK hP 3 0 rfl rfl (by decide) (by omega) d_Shortage_canReach_93 ?_
                    refine lv_iconst (v := (-1)) hx hb d_Shortage_canReach_94 (by decide) ?_
                    refine lv_icmp_ne (tgt := 129) hx hb d_Shortage_canReach_95 (by decide) (fun c95 => ?_) (fun c95 => ?_)
                    · replace hR := (if_neg c95).symm.trans hR
                      refine lv_iinc (v := nI (x6_65 + 1)) (lv' := [(6, .int (nI (x6_65 + 1))), (0, .ref (aT 0)), (1, .int (nI x1)), (2, .int (nI x2)), (3, .int (nI x3_65)), (4, .int (nI x4_27)), (5, .int (nI ((NT1_27 x4_27) * 34)))]) hx hb d_Shortage_canReach_129 hl (k := 6) rfl (hw_inc _ 1) (by decide) rfl (fun ls hl => ?_)
                      refine lv_goto (tgt := 65) hx hb d_Shortage_canReach_132 (by decide) ?_
                      rw [hrec_65] at hR
                      exact ih_65 x3_65 (x6_65 + 1) IT0_65 NT1_65 (by first | assumption | omega | exact hw_upb (by assumption) (by omega)) (by first | assumption | omega | exact hw_upb (by assumption) (by omega)) (by first | assumption | omega | exact hw_upb (by assumption) (by omega)) (by omega) H locs hP hD hS ls (lv_sub hl [1, 2, 3, 4, 5, 6, 0] rfl) hR
                    · replace hR := (if_pos c95).symm.trans hR
                      refine lv_iload_n hx hb d_Shortage_canReach_98 rfl (lv_at hl 3 rfl) ?_
                      refine lv_bipush (v := nI 34) hx hb d_Shortage_canReach_99 (by decide) ?_
                      refine hw_icmp_ge (tgt := 129) hx hb d_Shortage_canReach_101 (by decide) (by omega) (by omega) (fun c101 => ?_) (fun c101 => ?_)
                      · replace hR := (if_pos c101).symm.trans hR
                        refine lv_iinc (v := nI (x6_65 + 1)) (lv' := [(6, .int (nI (x6_65 + 1))), (0, .ref (aT 0)), (1, .int (nI x1)), (2, .int (nI x2)), (3, .int (nI x3_65)), (4, .int (nI x4_27)), (5, .int (nI ((NT1_27 x4_27) * 34)))]) hx hb d_Shortage_canReach_129 hl (k := 6) rfl (hw_inc _ 1) (by decide) rfl (fun ls hl => ?_)
                        refine lv_goto (tgt := 65) hx hb d_Shortage_canReach_132 (by decide) ?_
                        rw [hrec_65] at hR
                        exact ih_65 x3_65 (x6_65 + 1) IT0_65 NT1_65 (by first | assumption | omega | exact hw_upb (by assumption) (by omega)) (by first | assumption | omega | exact hw_upb (by assumption) (by omega)) (by first | assumption | omega | exact hw_upb (by assumption) (by omega)) (by omega) H locs hP hD hS ls (lv_sub hl [1, 2, 3, 4, 5, 6, 0] rfl) hR
                      · replace hR := (if_neg c101).symm.trans hR
                        refine lv_aload_n hx hb d_Shortage_canReach_104 rfl (lv_at hl 0 rfl) ?_
                        refine va_get (D := (dC, dI)) (ci := 1) (v := .ref (aT 3)) (C := R_Shortage) (T := T_Shortage) (N := 6) hx hb hG in_Shortage hown hK hP 0 rfl rfl 4 (by decide) (hG _ m_181) (fun _ h9 => h9) rfl d_Shortage_canReach_105 ?_
                        refine lv_iload hx hb d_Shortage_canReach_108 (lv_at hl 6 rfl) ?_
                        refine lv_aload_n hx hb d_Shortage_canReach_110 rfl (lv_at hl 0 rfl) ?_
                        refine va_get (D := (dC, dI)) (ci := 1) (v := .ref (aT 4)) (C := R_Shortage) (T := T_Shortage) (N := 6) hx hb hG in_Shortage hown hK hP 0 rfl rfl 5 (by decide) (hG _ m_182) (fun _ h9 => h9) rfl d_Shortage_canReach_111 ?_
                        refine lv_iload hx hb d_Shortage_canReach_114 (lv_at hl 4 rfl) ?_
                        refine hw_nald (g := NT1_65) hx hb hK hP 4 0 rfl rfl (by decide) (by omega) d_Shortage_canReach_116 ?_
                        have hb116 := htq x4_27
                        refine hw_iast (f := IT0_65) hx hb hK hP hD hS 3 0 rfl rfl (by decide) (by omega) d_Shortage_canReach_117 (fun H locs hP hD hS => ?_)
                        have hP : va_P (dC, dI) vwCl (w_T cI cJ cZ aT VT0 NT0 NT1_65 LT0 (upd IT0_65 x6_65 (nI (NT1_65 x4_27))) aS ++ w_S cI cJ cZ aS VS0 VS1 VS2 NS0 NS1 NS2 LS0 LS1 LS2 LS3 LS4 LS5 LS6 LS7 LS8 IS0 aY ++ w_Y cI cJ cZ aY VY0 LY0 LY1 LY2 IY0) H := hP
                        have hD : va_D A (w_T cI cJ cZ aT VT0 NT0 NT1_65 LT0 (upd IT0_65 x6_65 (nI (NT1_65 x4_27))) aS ++ w_S cI cJ cZ aS VS0 VS1 VS2 NS0 NS1 NS2 LS0 LS1 LS2 LS3 LS4 LS5 LS6 LS7 LS8 IS0 aY ++ w_Y cI cJ cZ aY VY0 LY0 LY1 LY2 IY0) := hD
                        refine lv_aload_n hx hb d_Shortage_canReach_118 rfl (lv_at hl 0 rfl) ?_
                        refine va_get (D := (dC, dI)) (ci := 1) (v := .ref (aT 4)) (C := R_Shortage) (T := T_Shortage) (N := 6) hx hb hG in_Shortage hown hK hP 0 rfl rfl 5 (by decide) (hG _ m_182) (fun _ h9 => h9) rfl d_Shortage_canReach_119 ?_
                        refine lv_iload_n hx hb d_Shortage_canReach_122 rfl (lv_at hl 3 rfl) ?_
                        refine lv_iload hx hb d_Shortage_canReach_123 (lv_at hl 6 rfl) ?_
                        refine hw_nast (g := NT1_65) hx hb hK hP hD hS 4 0 rfl rfl (by decide) (by omega) d_Shortage_canReach_125 (fun H locs hP hD hS => ?_)
                        have hP : va_P (dC, dI) vwCl (w_T cI cJ cZ aT VT0 NT0 (va_up NT1_65 x3_65 x6_65) LT0 (upd IT0_65 x6_65 (nI (NT1_65 x4_27))) aS ++ w_S cI cJ cZ aS VS0 VS1 VS2 NS0 NS1 NS2 LS0 LS1 LS2 LS3 LS4 LS5 LS6 LS7 LS8 IS0 aY ++ w_Y cI cJ cZ aY VY0 LY0 LY1 LY2 IY0) H := hP
                        have hD : va_D A (w_T cI cJ cZ aT VT0 NT0 (va_up NT1_65 x3_65 x6_65) LT0 (upd IT0_65 x6_65 (nI (NT1_65 x4_27))) aS ++ w_S cI cJ cZ aS VS0 VS1 VS2 NS0 NS1 NS2 LS0 LS1 LS2 LS3 LS4 LS5 LS6 LS7 LS8 IS0 aY ++ w_Y cI cJ cZ aY VY0 LY0 LY1 LY2 IY0) := hD
                        refine lv_iinc (v := nI (x3_65 + 1)) (lv' := [(3, .int (nI (x3_65 + 1))), (0, .ref (aT 0)), (1, .int (nI x1)), (2, .int (nI x2)), (4, .int (nI x4_27)), (5, .int (nI ((NT1_27 x4_27) * 34))), (6, .int (nI x6_65))]) hx hb d_Shortage_canReach_126 hl (k := 3) rfl (hw_inc _ 1) (by decide) rfl (fun ls hl => ?_)
                        refine lv_iinc (v := nI (x6_65 + 1)) (lv' := [(6, .int (nI (x6_65 + 1))), (3, .int (nI (x3_65 + 1))), (0, .ref (aT 0)), (1, .int (nI x1)), (2, .int (nI x2)), (4, .int (nI x4_27)), (5, .int (nI ((NT1_27 x4_27) * 34)))]) hx hb d_Shortage_canReach_129 hl (k := 6) rfl (hw_inc _ 1) (by decide) rfl (fun ls hl => ?_)
                        refine lv_goto (tgt := 65) hx hb d_Shortage_canReach_132 (by decide) ?_
                        rw [hrec_65] at hR
                        exact ih_65 (x3_65 + 1) (x6_65 + 1) (upd IT0_65 x6_65 (nI (NT1_65 x4_27))) (va_up NT1_65 x3_65 x6_65) (by first | assumption | omega | exact hw_upb (by assumption) (by omega)) (by first | assumption | omega | exact hw_upb (by assumption) (by omega)) (by first | assumption | omega | exact hw_upb (by assumption) (by omega)) (by omega) H locs hP hD hS ls (lv_sub hl [2, 3, 4, 1, 5, 6, 0] rfl) hR
            exact L_65 35 x3_27 0 IT0_27 NT1_27 (by first | assumption | omega | exact hw_upb (by assumption) (by omega)) (by first | assumption | omega | exact hw_upb (by assumption) (by omega)) (by first | assumption | omega | exact hw_upb (by assumption) (by omega)) (by omega) H locs hP hD hS ls (lv_sub hl [2, 3, 4, 5, 6, 1, 0] rfl) hR
  exact L_27 35 1 0 (upd (hh_fillI 34 IT0 (-1)) x1 (nI x1)) (va_up NT1 0 x1) (by first | assumption | omega | exact hw_upb (by assumption) (by omega)) (by first | assumption | omega | exact hw_upb (by assumption) (by omega)) (by first | assumption | omega | exact hw_upb (by assumption) (by omega)) (by omega) H locs hP hD hS ls (lv_sub hl [2, 3, 4, 1, 0] rfl) hR
def f_Shortage_push_h63B (IT0 : Nat → Int32) (x1_10 : Int64) (k_63 : (Nat) → (Nat) → (Nat → Int64) → (Nat → Int64)) (rec_63 : (Nat) → (Nat) → (Nat → Int64) → (Nat → Int64)) (x3_63 : Nat) (x4_63 : Nat) (LT0_63 : Nat → Int64) : (Nat → Int64) :=
  if 34 ≤ x4_63 then (k_63 x3_63 x4_63 LT0_63) else (if x3_63 = 32 then (k_63 x3_63 x4_63 LT0_63) else (rec_63 ((IT0 x3_63).toNatClampNeg) (x4_63 + 1) (vp_updL (vp_updL LT0_63 ((((IT0 x3_63).toNatClampNeg) * 34) + x3_63) ((LT0_63 ((((IT0 x3_63).toNatClampNeg) * 34) + x3_63)) - x1_10)) ((x3_63 * 34) + ((IT0 x3_63).toNatClampNeg)) (((vp_updL LT0_63 ((((IT0 x3_63).toNatClampNeg) * 34) + x3_63) ((LT0_63 ((((IT0 x3_63).toNatClampNeg) * 34) + x3_63)) - x1_10)) ((x3_63 * 34) + ((IT0 x3_63).toNatClampNeg))) + x1_10))))
def f_Shortage_push_h63 (IT0 : Nat → Int32) (x1_10 : Int64) (k_63 : (Nat) → (Nat) → (Nat → Int64) → (Nat → Int64)) : Nat → (Nat) → (Nat) → (Nat → Int64) → (Nat → Int64)
  | 0, x3_63, x4_63, LT0_63 => k_63 x3_63 x4_63 LT0_63
  | n + 1, x3_63, x4_63, LT0_63 => f_Shortage_push_h63B IT0 x1_10 k_63 (fun x3_63 x4_63 LT0_63 => f_Shortage_push_h63 IT0 x1_10 k_63 n x3_63 x4_63 LT0_63) x3_63 x4_63 LT0_63
def f_Shortage_push_x63  (x3_63 : Nat) (x4_63 : Nat) (LT0_63 : Nat → Int64) : (Nat → Int64) :=
  (LT0_63)
def f_Shortage_push_h10B (LT0 : Nat → Int64) (IT0 : Nat → Int32) (k_10 : (Int64) → (Nat) → (Nat) → (Nat → Int64)) (rec_10 : (Int64) → (Nat) → (Nat) → (Nat → Int64)) (x1_10 : Int64) (x3_10 : Nat) (x4_10 : Nat) : (Nat → Int64) :=
  if 34 ≤ x4_10 then (k_10 x1_10 x3_10 x4_10) else (if x3_10 = 32 then (k_10 x1_10 x3_10 x4_10) else (rec_10 (hh_min x1_10 (LT0 ((((IT0 x3_10).toNatClampNeg) * 34) + x3_10))) ((IT0 x3_10).toNatClampNeg) (x4_10 + 1)))
def f_Shortage_push_h10 (LT0 : Nat → Int64) (IT0 : Nat → Int32) (k_10 : (Int64) → (Nat) → (Nat) → (Nat → Int64)) : Nat → (Int64) → (Nat) → (Nat) → (Nat → Int64)
  | 0, x1_10, x3_10, x4_10 => k_10 x1_10 x3_10 x4_10
  | n + 1, x1_10, x3_10, x4_10 => f_Shortage_push_h10B LT0 IT0 k_10 (fun x1_10 x3_10 x4_10 => f_Shortage_push_h10 LT0 IT0 k_10 n x1_10 x3_10 x4_10) x1_10 x3_10 x4_10
def f_Shortage_push_x10 (IT0 : Nat → Int32) (LT0 : Nat → Int64) (x1_10 : Int64) (x3_10 : Nat) (x4_10 : Nat) : (Nat → Int64) :=
  f_Shortage_push_h63 IT0 x1_10 f_Shortage_push_x63 35 33 0 LT0
def f_Shortage_push (LT0 : Nat → Int64) (IT0 : Nat → Int32) : (Nat → Int64) :=
  f_Shortage_push_h10 LT0 IT0 (f_Shortage_push_x10 IT0 LT0) 35 1099511627776 33 0
set_option maxHeartbeats 4000000 in
set_option maxRecDepth 100000 in
theorem c_Shortage_push (l : Launch) (dC : Nat → ClassId) (dI : Nat → Nat → Nat) (cI cJ cZ : ClassId) (sz : Nat) (aT : Nat → Nat) (VT0 : Nat) (NT0 : Nat → Nat) (NT1 : Nat → Nat) (LT0 : Nat → Int64) (IT0 : Nat → Int32) (aS : Nat → Nat) (VS0 : Nat) (VS1 : Nat) (VS2 : Nat) (NS0 : Nat → Nat) (NS1 : Nat → Nat) (NS2 : Nat → Nat) (LS0 : Nat → Int64) (LS1 : Nat → Int64) (LS2 : Nat → Int64) (LS3 : Nat → Int64) (LS4 : Nat → Int64) (LS5 : Nat → Int64) (LS6 : Nat → Int64) (LS7 : Nat → Int64) (LS8 : Nat → Int64) (IS0 : Nat → Int32) (aY : Nat → Nat) (VY0 : Nat) (LY0 : Nat → Int64) (LY1 : Nat → Int64) (LY2 : Nat → Int64) (IY0 : Nat → Int32) (Rt : Nat → Prop) (hRt : ∀ v, Rt v → v < 34 ∧ (v = 32 ∨ ∃ u0, IT0 v = nI u0 ∧ Rt u0)) (hend : Rt 33) : hh_Cv l y_Shortage_push u_Shortage_push ({ frames := 1, cells := 0, slots := 0, locals := 23 }) (dC, dI) vwCl [(cI, .int), (cJ, .long), (cZ, .boolean)] (w_T cI cJ cZ aT VT0 NT0 NT1 LT0 IT0 aS ++ w_S cI cJ cZ aS VS0 VS1 VS2 NS0 NS1 NS2 LS0 LS1 LS2 LS3 LS4 LS5 LS6 LS7 LS8 IS0 aY ++ w_Y cI cJ cZ aY VY0 LY0 LY1 LY2 IY0) sz [.ref (aT 0)] (w_T cI cJ cZ aT VT0 NT0 NT1 (f_Shortage_push LT0 IT0) IT0 aS ++ w_S cI cJ cZ aS VS0 VS1 VS2 NS0 NS1 NS2 LS0 LS1 LS2 LS3 LS4 LS5 LS6 LS7 LS8 IS0 aY ++ w_Y cI cJ cZ aY VY0 LY0 LY1 LY2 IY0) 0 0 := by
  unfold hh_Cv
  refine Met.ofW (cc := b_Shortage_push) (maxL := 5) (ret := none) (by decide) rfl ?_
  intro p e s m args below meth c s₁ B hml hv
  obtain ⟨rfl, hsz, hP, hK, hD0⟩ := hv
  have hx := B.exec
  have hb := B.bytes
  have hr := B.returns
  have hts := atoms_spec (ws := u_Shortage_push) B.pre
  have hG : ∀ w ∈ wG, w.before ([.ref (aT 0)]).toArray s = true := fun w h => hts w (List.mem_cons_of_mem _ h)
  have hown : s.vm.findClass R_Shortage = some m.cls := findClass_of_methodNamed B.named
  have hlocks := B.notSynchronized
  subst hsz
  have hD := hD0.self (sz := s.heap.size)
  generalize hAe : va_A (w_T cI cJ cZ aT VT0 NT0 NT1 LT0 IT0 aS ++ w_S cI cJ cZ aS VS0 VS1 VS2 NS0 NS1 NS2 LS0 LS1 LS2 LS3 LS4 LS5 LS6 LS7 LS8 IS0 aY ++ w_Y cI cJ cZ aY VY0 LY0 LY1 LY2 IY0) s.heap.size = A at hD ⊢
  have hA : ∀ q : Nat, s.heap.size ≤ q → A q := fun q h => by rw [← hAe]; exact Or.inr h
  have hS : va_S A s.heap s.heap [] := va_S.rf
  have hl := lv_entry ([.ref (aT 0)]) (n := 5) (Nat.le_of_ble_eq_true rfl)
  rw [lg_entry_eq]
  generalize (lg_sl ([.ref (aT 0)]) ++ List.replicate (5 - (lg_sl ([.ref (aT 0)])).length) Slot.unset).toArray = ls at hl ⊢
  have hl : lv_has ls 5 [(0, .ref (aT 0))] := hl
  generalize hR : f_Shortage_push LT0 IT0 = r0
  obtain ⟨H, locs, hHe, hle⟩ : ∃ (H : Heap) (locs : List Loc), s.heap = H ∧ [] = locs := ⟨_, _, rfl, rfl⟩
  have hP : va_P (dC, dI) vwCl (w_T cI cJ cZ aT VT0 NT0 NT1 LT0 IT0 aS ++ w_S cI cJ cZ aS VS0 VS1 VS2 NS0 NS1 NS2 LS0 LS1 LS2 LS3 LS4 LS5 LS6 LS7 LS8 IS0 aY ++ w_Y cI cJ cZ aY VY0 LY0 LY1 LY2 IY0) H := by rw [← hHe]; exact hP
  have hS : va_S A s.heap H locs := by rw [← hHe, ← hle]; exact hS
  refine hw_start hHe hle ?_
  unfold f_Shortage_push at hR
  refine lv_ldc2 (v := 1099511627776) hx hb hown (hG _ m_595) d_Shortage_push_0 ?_
  refine lv_lstore_n (lv' := [(1, .long 1099511627776), (0, .ref (aT 0))]) hx hb d_Shortage_push_3 rfl hl (by decide) rfl (fun ls hl => ?_)
  refine lv_bipush (v := nI 33) hx hb d_Shortage_push_4 (by decide) ?_
  refine lv_istore_n (lv' := [(3, .int (nI 33)), (1, .long 1099511627776), (0, .ref (aT 0))]) hx hb d_Shortage_push_6 rfl hl (by decide) rfl (fun ls hl => ?_)
  refine lv_iconst (v := nI 0) hx hb d_Shortage_push_7 (by decide) ?_
  refine lv_istore (lv' := [(4, .int (nI 0)), (3, .int (nI 33)), (1, .long 1099511627776), (0, .ref (aT 0))]) hx hb d_Shortage_push_8 hl (by decide) rfl (fun ls hl => ?_)
  obtain ⟨k_10, hk_10, hR⟩ : ∃ k, (f_Shortage_push_x10 IT0 LT0) = k ∧ f_Shortage_push_h10 LT0 IT0 k 35 1099511627776 33 0 = r0 := ⟨_, rfl, hR⟩
  have X_10 : ∀ (x1_10 : Int64) (x3_10 : Nat) (x4_10 : Nat) (hi : x4_10 ≤ 34) (hrt : Rt x3_10) (H : Heap) (locs : List Loc) (hP : va_P (dC, dI) vwCl (w_T cI cJ cZ aT VT0 NT0 NT1 LT0 IT0 aS ++ w_S cI cJ cZ aS VS0 VS1 VS2 NS0 NS1 NS2 LS0 LS1 LS2 LS3 LS4 LS5 LS6 LS7 LS8 IS0 aY ++ w_Y cI cJ cZ aY VY0 LY0 LY1 LY2 IY0) H) (hD : va_D A (w_T cI cJ cZ aT VT0 NT0 NT1 LT0 IT0 aS ++ w_S cI cJ cZ aS VS0 VS1 VS2 NS0 NS1 NS2 LS0 LS1 LS2 LS3 LS4 LS5 LS6 LS7 LS8 IS0 aY ++ w_Y cI cJ cZ aY VY0 LY0 LY1 LY2 IY0)) (hS : va_S A s.heap H locs) (ls : Array Slot) (hl : lv_has ls 5 [(0, .ref (aT 0)), (1, .long x1_10), (3, .int (nI x3_10)), (4, .int (nI x4_10))]) (hR : k_10 x1_10 x3_10 x4_10 = r0), W p l e (headSpec u_Shortage_push ({ frames := 1, cells := 0, slots := 0, locals := 23 })).room s m ([.ref (aT 0)]).toArray below meth c H locs 0 0 (hh_Zv below (dC, dI) vwCl [(cI, .int), (cJ, .long), (cZ, .boolean)] A (w_T cI cJ cZ aT VT0 NT0 NT1 r0 IT0 aS ++ w_S cI cJ cZ aS VS0 VS1 VS2 NS0 NS1 NS2 LS0 LS1 LS2 LS3 LS4 LS5 LS6 LS7 LS8 IS0 aY ++ w_Y cI cJ cZ aY VY0 LY0 LY1 LY2 IY0) ([.ref (aT 0)]).toArray s) (F0 m 57 ls []) := by
    intro x1_10 x3_10 x4_10 hi hrt H locs hP hD hS ls hl hR
    rw [← hk_10] at hR
    unfold f_Shortage_push_x10 at hR
    refine lv_bipush (v := nI 33) hx hb d_Shortage_push_57 (by decide) ?_
    refine lv_istore_n (lv' := [(3, .int (nI 33)), (0, .ref (aT 0)), (1, .long x1_10), (4, .int (nI x4_10))]) hx hb d_Shortage_push_59 rfl hl (by decide) rfl (fun ls hl => ?_)
    refine lv_iconst (v := nI 0) hx hb d_Shortage_push_60 (by decide) ?_
    refine lv_istore (lv' := [(4, .int (nI 0)), (3, .int (nI 33)), (0, .ref (aT 0)), (1, .long x1_10)]) hx hb d_Shortage_push_61 hl (by decide) rfl (fun ls hl => ?_)
    obtain ⟨k_63, hk_63, hR⟩ : ∃ k, f_Shortage_push_x63 = k ∧ f_Shortage_push_h63 IT0 x1_10 k 35 33 0 LT0 = r0 := ⟨_, rfl, hR⟩
    have X_63 : ∀ (x3_63 : Nat) (x4_63 : Nat) (LT0_63 : Nat → Int64) (hi : x4_63 ≤ 34) (hrt : Rt x3_63) (H : Heap) (locs : List Loc) (hP : va_P (dC, dI) vwCl (w_T cI cJ cZ aT VT0 NT0 NT1 LT0_63 IT0 aS ++ w_S cI cJ cZ aS VS0 VS1 VS2 NS0 NS1 NS2 LS0 LS1 LS2 LS3 LS4 LS5 LS6 LS7 LS8 IS0 aY ++ w_Y cI cJ cZ aY VY0 LY0 LY1 LY2 IY0) H) (hD : va_D A (w_T cI cJ cZ aT VT0 NT0 NT1 LT0_63 IT0 aS ++ w_S cI cJ cZ aS VS0 VS1 VS2 NS0 NS1 NS2 LS0 LS1 LS2 LS3 LS4 LS5 LS6 LS7 LS8 IS0 aY ++ w_Y cI cJ cZ aY VY0 LY0 LY1 LY2 IY0)) (hS : va_S A s.heap H locs) (ls : Array Slot) (hl : lv_has ls 5 [(0, .ref (aT 0)), (1, .long x1_10), (3, .int (nI x3_63)), (4, .int (nI x4_63))]) (hR : k_63 x3_63 x4_63 LT0_63 = r0), W p l e (headSpec u_Shortage_push ({ frames := 1, cells := 0, slots := 0, locals := 23 })).room s m ([.ref (aT 0)]).toArray below meth c H locs 0 0 (hh_Zv below (dC, dI) vwCl [(cI, .int), (cJ, .long), (cZ, .boolean)] A (w_T cI cJ cZ aT VT0 NT0 NT1 r0 IT0 aS ++ w_S cI cJ cZ aS VS0 VS1 VS2 NS0 NS1 NS2 LS0 LS1 LS2 LS3 LS4 LS5 LS6 LS7 LS8 IS0 aY ++ w_Y cI cJ cZ aY VY0 LY0 LY1 LY2 IY0) ([.ref (aT 0)]).toArray s) (F0 m 129 ls []) := by
      intro x3_63 x4_63 LT0_63 hi hrt H locs hP hD hS ls hl hR
      rw [← hk_63] at hR
      unfold f_Shortage_push_x63 at hR
      subst hR
      exact W.vret hx hb hr (fun t ht hW => ⟨⟨(), rfl, trivial, by rw [ht]; exact hP, va_K.moved hW.alike hK, hD⟩, hS.F ht⟩) hS.2.2 d_Shortage_push_129
    have L_63 : ∀ (n : Nat) (x3_63 : Nat) (x4_63 : Nat) (LT0_63 : Nat → Int64) (hi : x4_63 ≤ 34) (hrt : Rt x3_63) (hfu : 34 - x4_63 < n) (H : Heap) (locs : List Loc) (hP : va_P (dC, dI) vwCl (w_T cI cJ cZ aT VT0 NT0 NT1 LT0_63 IT0 aS ++ w_S cI cJ cZ aS VS0 VS1 VS2 NS0 NS1 NS2 LS0 LS1 LS2 LS3 LS4 LS5 LS6 LS7 LS8 IS0 aY ++ w_Y cI cJ cZ aY VY0 LY0 LY1 LY2 IY0) H) (hD : va_D A (w_T cI cJ cZ aT VT0 NT0 NT1 LT0_63 IT0 aS ++ w_S cI cJ cZ aS VS0 VS1 VS2 NS0 NS1 NS2 LS0 LS1 LS2 LS3 LS4 LS5 LS6 LS7 LS8 IS0 aY ++ w_Y cI cJ cZ aY VY0 LY0 LY1 LY2 IY0)) (hS : va_S A s.heap H locs) (ls : Array Slot) (hl : lv_has ls 5 [(0, .ref (aT 0)), (1, .long x1_10), (3, .int (nI x3_63)), (4, .int (nI x4_63))]) (hR : f_Shortage_push_h63 IT0 x1_10 k_63 n x3_63 x4_63 LT0_63 = r0), W p l e (headSpec u_Shortage_push ({ frames := 1, cells := 0, slots := 0, locals := 23 })).room s m ([.ref (aT 0)]).toArray below meth c H locs 0 0 (hh_Zv below (dC, dI) vwCl [(cI, .int), (cJ, .long), (cZ, .boolean)] A (w_T cI cJ cZ aT VT0 NT0 NT1 r0 IT0 aS ++ w_S cI cJ cZ aS VS0 VS1 VS2 NS0 NS1 NS2 LS0 LS1 LS2 LS3 LS4 LS5 LS6 LS7 LS8 IS0 aY ++ w_Y cI cJ cZ aY VY0 LY0 LY1 LY2 IY0) ([.ref (aT 0)]).toArray s) (F0 m 63 ls []) := by
      intro n
      induction n with
      | zero =>
        intro x3_63 x4_63 LT0_63 hi hrt hfu H locs hP hD hS ls hl hR
        exact absurd hfu (Nat.not_lt_zero _)
      | succ n ih_63 =>
        intro x3_63 x4_63 LT0_63 hi hrt hfu H locs hP hD hS ls hl hR
        rw [f_Shortage_push_h63] at hR
        obtain ⟨rec_63, hrec_63, hR⟩ : ∃ r, r = _ ∧ f_Shortage_push_h63B IT0 x1_10 k_63 r x3_63 x4_63 LT0_63 = r0 := ⟨_, rfl, hR⟩
        unfold f_Shortage_push_h63B at hR
        have hl3 := (hRt x3_63 hrt).1
        refine lv_iload hx hb d_Shortage_push_63 (lv_at hl 3 rfl) ?_
        refine lv_bipush (v := nI 34) hx hb d_Shortage_push_65 (by decide) ?_
        refine hw_icmp_ge (tgt := 129) hx hb d_Shortage_push_67 (by decide) (by omega) (by omega) (fun c67 => ?_) (fun c67 => ?_)
        · replace hR := (if_pos c67).symm.trans hR
          exact X_63 x3_63 x4_63 LT0_63 (by first | assumption | omega | exact hw_upb (by assumption) (by omega)) (by first | assumption | omega | exact hw_upb (by assumption) (by omega)) H locs hP hD hS ls (lv_sub hl [0, 1, 2, 3] rfl) hR
        · replace hR := (if_neg c67).symm.trans hR
          refine lv_iload_n hx hb d_Shortage_push_70 rfl (lv_at hl 2 rfl) ?_
          refine lv_bipush (v := nI 32) hx hb d_Shortage_push_71 (by decide) ?_
          refine hw_icmp_eq (tgt := 129) hx hb d_Shortage_push_73 (by decide) (by omega) (by omega) (fun c73 => ?_) (fun c73 => ?_)
          · replace hR := (if_pos c73).symm.trans hR
            exact X_63 x3_63 x4_63 LT0_63 (by first | assumption | omega | exact hw_upb (by assumption) (by omega)) (by first | assumption | omega | exact hw_upb (by assumption) (by omega)) H locs hP hD hS ls (lv_sub hl [0, 1, 2, 3] rfl) hR
          · replace hR := (if_neg c73).symm.trans hR
            obtain ⟨hl3, h42 | ⟨u0, e1, hu0⟩⟩ := hRt x3_63 hrt
            · exact absurd h42 c73
            have hul := (hRt u0 hu0).1
            have e3 : (IT0 x3_63).toNatClampNeg = u0 := by rw [e1, nI_clamp (by omega)]
            refine lv_aload_n hx hb d_Shortage_push_76 rfl (lv_at hl 0 rfl) ?_
            refine va_get (D := (dC, dI)) (ci := 1) (v := .ref (aT 2)) (C := R_Shortage) (T := T_Shortage) (N := 6) hx hb hG in_Shortage hown hK hP 0 rfl rfl 3 (by decide) (hG _ m_180) (fun _ h9 => h9) rfl d_Shortage_push_77 ?_
            refine lv_aload_n hx hb d_Shortage_push_80 rfl (lv_at hl 0 rfl) ?_
            refine va_get (D := (dC, dI)) (ci := 1) (v := .ref (aT 3)) (C := R_Shortage) (T := T_Shortage) (N := 6) hx hb hG in_Shortage hown hK hP 0 rfl rfl 4 (by decide) (hG _ m_181) (fun _ h9 => h9) rfl d_Shortage_push_81 ?_
            refine lv_iload_n hx hb d_Shortage_push_84 rfl (lv_at hl 2 rfl) ?_
            refine hw_iald (f := IT0) hx hb hK hP 3 0 rfl rfl (by decide) (by omega) d_Shortage_push_85 ?_
            refine hw_top (t := (IT0 x3_63).toNatClampNeg) (by rw [e1, nI_clamp (by omega)]) ?_
            refine lv_bipush (v := nI 34) hx hb d_Shortage_push_86 (by decide) ?_
            refine hw_imul hx hb d_Shortage_push_88 ?_
            refine lv_iload_n hx hb d_Shortage_push_89 rfl (lv_at hl 2 rfl) ?_
            refine hw_iadd hx hb d_Shortage_push_90 ?_
            refine lv_dup2_11 hx hb d_Shortage_push_91 rfl rfl ?_
            refine hw_lald (f := LT0_63) hx hb hK hP 2 1 rfl rfl (by decide) (by omega) d_Shortage_push_92 ?_
            refine lv_lload_n hx hb d_Shortage_push_93 rfl (lv_at hl 1 rfl) ?_
            refine lv_lsub hx hb d_Shortage_push_94 ?_
            refine hw_last (f := LT0_63) hx hb hK hP hD hS 2 1 rfl rfl (by decide) (by omega) d_Shortage_push_95 (fun H locs hP hD hS => ?_)
            have hP : va_P (dC, dI) vwCl (w_T cI cJ cZ aT VT0 NT0 NT1 (vp_updL LT0_63 ((((IT0 x3_63).toNatClampNeg) * 34) + x3_63) ((LT0_63 ((((IT0 x3_63).toNatClampNeg) * 34) + x3_63)) - x1_10)) IT0 aS ++ w_S cI cJ cZ aS VS0 VS1 VS2 NS0 NS1 NS2 LS0 LS1 LS2 LS3 LS4 LS5 LS6 LS7 LS8 IS0 aY ++ w_Y cI cJ cZ aY VY0 LY0 LY1 LY2 IY0) H := hP
            have hD : va_D A (w_T cI cJ cZ aT VT0 NT0 NT1 (vp_updL LT0_63 ((((IT0 x3_63).toNatClampNeg) * 34) + x3_63) ((LT0_63 ((((IT0 x3_63).toNatClampNeg) * 34) + x3_63)) - x1_10)) IT0 aS ++ w_S cI cJ cZ aS VS0 VS1 VS2 NS0 NS1 NS2 LS0 LS1 LS2 LS3 LS4 LS5 LS6 LS7 LS8 IS0 aY ++ w_Y cI cJ cZ aY VY0 LY0 LY1 LY2 IY0) := hD
            refine lv_aload_n hx hb d_Shortage_push_96 rfl (lv_at hl 0 rfl) ?_
            refine va_get (D := (dC, dI)) (ci := 1) (v := .ref (aT 2)) (C := R_Shortage) (T := T_Shortage) (N := 6) hx hb hG in_Shortage hown hK hP 0 rfl rfl 3 (by decide) (hG _ m_180) (fun _ h9 => h9) rfl d_Shortage_push_97 ?_
            refine lv_iload_n hx hb d_Shortage_push_100 rfl (lv_at hl 2 rfl) ?_
            refine lv_bipush (v := nI 34) hx hb d_Shortage_push_101 (by decide) ?_
            refine hw_imul hx hb d_Shortage_push_103 ?_
            refine lv_aload_n hx hb d_Shortage_push_104 rfl (lv_at hl 0 rfl) ?_
            refine va_get (D := (dC, dI)) (ci := 1) (v := .ref (aT 3)) (C := R_Shortage) (T := T_Shortage) (N := 6) hx hb hG in_Shortage hown hK hP 0 rfl rfl 4 (by decide) (hG _ m_181) (fun _ h9 => h9) rfl d_Shortage_push_105 ?_
            refine lv_iload_n hx hb d_Shortage_push_108 rfl (lv_at hl 2 rfl) ?_
            refine hw_iald (f := IT0) hx hb hK hP 3 0 rfl rfl (by decide) (by omega) d_Shortage_push_109 ?_
            refine hw_top (t := (IT0 x3_63).toNatClampNeg) (by rw [e1, nI_clamp (by omega)]) ?_
            refine hw_iadd hx hb d_Shortage_push_110 ?_
            refine lv_dup2_11 hx hb d_Shortage_push_111 rfl rfl ?_
            refine hw_lald (f := (vp_updL LT0_63 ((((IT0 x3_63).toNatClampNeg) * 34) + x3_63) ((LT0_63 ((((IT0 x3_63).toNatClampNeg) * 34) + x3_63)) - x1_10))) hx hb hK hP 2 1 rfl rfl (by decide) (by omega) d_Shortage_push_112 ?_
            refine lv_lload_n hx hb d_Shortage_push_113 rfl (lv_at hl 1 rfl) ?_
            refine lv_ladd hx hb d_Shortage_push_114 ?_
            refine hw_last (f := (vp_updL LT0_63 ((((IT0 x3_63).toNatClampNeg) * 34) + x3_63) ((LT0_63 ((((IT0 x3_63).toNatClampNeg) * 34) + x3_63)) - x1_10))) hx hb hK hP hD hS 2 1 rfl rfl (by decide) (by omega) d_Shortage_push_115 (fun H locs hP hD hS => ?_)
            have hP : va_P (dC, dI) vwCl (w_T cI cJ cZ aT VT0 NT0 NT1 (vp_updL (vp_updL LT0_63 ((((IT0 x3_63).toNatClampNeg) * 34) + x3_63) ((LT0_63 ((((IT0 x3_63).toNatClampNeg) * 34) + x3_63)) - x1_10)) ((x3_63 * 34) + ((IT0 x3_63).toNatClampNeg)) (((vp_updL LT0_63 ((((IT0 x3_63).toNatClampNeg) * 34) + x3_63) ((LT0_63 ((((IT0 x3_63).toNatClampNeg) * 34) + x3_63)) - x1_10)) ((x3_63 * 34) + ((IT0 x3_63).toNatClampNeg))) + x1_10)) IT0 aS ++ w_S cI cJ cZ aS VS0 VS1 VS2 NS0 NS1 NS2 LS0 LS1 LS2 LS3 LS4 LS5 LS6 LS7 LS8 IS0 aY ++ w_Y cI cJ cZ aY VY0 LY0 LY1 LY2 IY0) H := hP
            have hD : va_D A (w_T cI cJ cZ aT VT0 NT0 NT1 (vp_updL (vp_updL LT0_63 ((((IT0 x3_63).toNatClampNeg) * 34) + x3_63) ((LT0_63 ((((IT0 x3_63).toNatClampNeg) * 34) + x3_63)) - x1_10)) ((x3_63 * 34) + ((IT0 x3_63).toNatClampNeg)) (((vp_updL LT0_63 ((((IT0 x3_63).toNatClampNeg) * 34) + x3_63) ((LT0_63 ((((IT0 x3_63).toNatClampNeg) * 34) + x3_63)) - x1_10)) ((x3_63 * 34) + ((IT0 x3_63).toNatClampNeg))) + x1_10)) IT0 aS ++ w_S cI cJ cZ aS VS0 VS1 VS2 NS0 NS1 NS2 LS0 LS1 LS2 LS3 LS4 LS5 LS6 LS7 LS8 IS0 aY ++ w_Y cI cJ cZ aY VY0 LY0 LY1 LY2 IY0) := hD
            refine lv_aload_n hx hb d_Shortage_push_116 rfl (lv_at hl 0 rfl) ?_
            refine va_get (D := (dC, dI)) (ci := 1) (v := .ref (aT 3)) (C := R_Shortage) (T := T_Shortage) (N := 6) hx hb hG in_Shortage hown hK hP 0 rfl rfl 4 (by decide) (hG _ m_181) (fun _ h9 => h9) rfl d_Shortage_push_117 ?_
            refine lv_iload_n hx hb d_Shortage_push_120 rfl (lv_at hl 2 rfl) ?_
            refine hw_iald (f := IT0) hx hb hK hP 3 0 rfl rfl (by decide) (by omega) d_Shortage_push_121 ?_
            refine hw_top (t := (IT0 x3_63).toNatClampNeg) (by rw [e1, nI_clamp (by omega)]) ?_
            refine lv_istore_n (lv' := [(3, .int (nI ((IT0 x3_63).toNatClampNeg))), (0, .ref (aT 0)), (1, .long x1_10), (4, .int (nI x4_63))]) hx hb d_Shortage_push_122 rfl hl (by decide) rfl (fun ls hl => ?_)
            refine lv_iinc (v := nI (x4_63 + 1)) (lv' := [(4, .int (nI (x4_63 + 1))), (3, .int (nI ((IT0 x3_63).toNatClampNeg))), (0, .ref (aT 0)), (1, .long x1_10)]) hx hb d_Shortage_push_123 hl (k := 3) rfl (hw_inc _ 1) (by decide) rfl (fun ls hl => ?_)
            refine lv_goto (tgt := 63) hx hb d_Shortage_push_126 (by decide) ?_
            rw [hrec_63] at hR
            exact ih_63 ((IT0 x3_63).toNatClampNeg) (x4_63 + 1) (vp_updL (vp_updL LT0_63 ((((IT0 x3_63).toNatClampNeg) * 34) + x3_63) ((LT0_63 ((((IT0 x3_63).toNatClampNeg) * 34) + x3_63)) - x1_10)) ((x3_63 * 34) + ((IT0 x3_63).toNatClampNeg)) (((vp_updL LT0_63 ((((IT0 x3_63).toNatClampNeg) * 34) + x3_63) ((LT0_63 ((((IT0 x3_63).toNatClampNeg) * 34) + x3_63)) - x1_10)) ((x3_63 * 34) + ((IT0 x3_63).toNatClampNeg))) + x1_10)) (by first | assumption | omega | exact hw_upb (by assumption) (by omega)) (by rw [e3]; exact hu0) (by omega) H locs hP hD hS ls (lv_sub hl [2, 3, 1, 0] rfl) hR
    exact L_63 35 33 0 LT0 (by first | assumption | omega | exact hw_upb (by assumption) (by omega)) (by first | assumption | omega | exact hw_upb (by assumption) (by omega)) (by omega) H locs hP hD hS ls (lv_sub hl [2, 3, 1, 0] rfl) hR
  have L_10 : ∀ (n : Nat) (x1_10 : Int64) (x3_10 : Nat) (x4_10 : Nat) (hi : x4_10 ≤ 34) (hrt : Rt x3_10) (hfu : 34 - x4_10 < n) (H : Heap) (locs : List Loc) (hP : va_P (dC, dI) vwCl (w_T cI cJ cZ aT VT0 NT0 NT1 LT0 IT0 aS ++ w_S cI cJ cZ aS VS0 VS1 VS2 NS0 NS1 NS2 LS0 LS1 LS2 LS3 LS4 LS5 LS6 LS7 LS8 IS0 aY ++ w_Y cI cJ cZ aY VY0 LY0 LY1 LY2 IY0) H) (hD : va_D A (w_T cI cJ cZ aT VT0 NT0 NT1 LT0 IT0 aS ++ w_S cI cJ cZ aS VS0 VS1 VS2 NS0 NS1 NS2 LS0 LS1 LS2 LS3 LS4 LS5 LS6 LS7 LS8 IS0 aY ++ w_Y cI cJ cZ aY VY0 LY0 LY1 LY2 IY0)) (hS : va_S A s.heap H locs) (ls : Array Slot) (hl : lv_has ls 5 [(0, .ref (aT 0)), (1, .long x1_10), (3, .int (nI x3_10)), (4, .int (nI x4_10))]) (hR : f_Shortage_push_h10 LT0 IT0 k_10 n x1_10 x3_10 x4_10 = r0), W p l e (headSpec u_Shortage_push ({ frames := 1, cells := 0, slots := 0, locals := 23 })).room s m ([.ref (aT 0)]).toArray below meth c H locs 0 0 (hh_Zv below (dC, dI) vwCl [(cI, .int), (cJ, .long), (cZ, .boolean)] A (w_T cI cJ cZ aT VT0 NT0 NT1 r0 IT0 aS ++ w_S cI cJ cZ aS VS0 VS1 VS2 NS0 NS1 NS2 LS0 LS1 LS2 LS3 LS4 LS5 LS6 LS7 LS8 IS0 aY ++ w_Y cI cJ cZ aY VY0 LY0 LY1 LY2 IY0) ([.ref (aT 0)]).toArray s) (F0 m 10 ls []) := by
    intro n
    induction n with
    | zero =>
      intro x1_10 x3_10 x4_10 hi hrt hfu H locs hP hD hS ls hl hR
      exact absurd hfu (Nat.not_lt_zero _)
    | succ n ih_10 =>
      intro x1_10 x3_10 x4_10 hi hrt hfu H locs hP hD hS ls hl hR
      rw [f_Shortage_push_h10] at hR
      obtain ⟨rec_10, hrec_10, hR⟩ : ∃ r, r = _ ∧ f_Shortage_push_h10B LT0 IT0 k_10 r x1_10 x3_10 x4_10 = r0 := ⟨_, rfl, hR⟩
      unfold f_Shortage_push_h10B at hR
      have hl3 := (hRt x3_10 hrt).1
      refine lv_iload hx hb d_Shortage_push_10 (lv_at hl 3 rfl) ?_
      refine lv_bipush (v := nI 34) hx hb d_Shortage_push_12 (by decide) ?_
      refine hw_icmp_ge (tgt := 57) hx hb d_Shortage_push_14 (by decide) (by omega) (by omega) (fun c14 => ?_) (fun c14 => ?_)
      · replace hR := (if_pos c14).symm.trans hR
        exact X_10 x1_10 x3_10 x4_10 (by first | assumption | omega | exact hw_upb (by assumption) (by omega)) (by first | assumption | omega | exact hw_upb (by assumption) (by omega)) H locs hP hD hS ls (lv_sub hl [0, 1, 2, 3] rfl) hR
      · replace hR := (if_neg c14).symm.trans hR
        refine lv_iload_n hx hb d_Shortage_push_17 rfl (lv_at hl 2 rfl) ?_
        refine lv_bipush (v := nI 32) hx hb d_Shortage_push_18 (by decide) ?_
        refine hw_icmp_eq (tgt := 57) hx hb d_Shortage_push_20 (by decide) (by omega) (by omega) (fun c20 => ?_) (fun c20 => ?_)
        · replace hR := (if_pos c20).symm.trans hR
          exact X_10 x1_10 x3_10 x4_10 (by first | assumption | omega | exact hw_upb (by assumption) (by omega)) (by first | assumption | omega | exact hw_upb (by assumption) (by omega)) H locs hP hD hS ls (lv_sub hl [0, 1, 2, 3] rfl) hR
        · replace hR := (if_neg c20).symm.trans hR
          obtain ⟨hl3, h42 | ⟨u0, e1, hu0⟩⟩ := hRt x3_10 hrt
          · exact absurd h42 c20
          have hul := (hRt u0 hu0).1
          have e3 : (IT0 x3_10).toNatClampNeg = u0 := by rw [e1, nI_clamp (by omega)]
          refine lv_lload_n hx hb d_Shortage_push_23 rfl (lv_at hl 1 rfl) ?_
          refine lv_aload_n hx hb d_Shortage_push_24 rfl (lv_at hl 0 rfl) ?_
          refine va_get (D := (dC, dI)) (ci := 1) (v := .ref (aT 2)) (C := R_Shortage) (T := T_Shortage) (N := 6) hx hb hG in_Shortage hown hK hP 0 rfl rfl 3 (by decide) (hG _ m_180) (fun _ h9 => h9) rfl d_Shortage_push_25 ?_
          refine lv_aload_n hx hb d_Shortage_push_28 rfl (lv_at hl 0 rfl) ?_
          refine va_get (D := (dC, dI)) (ci := 1) (v := .ref (aT 3)) (C := R_Shortage) (T := T_Shortage) (N := 6) hx hb hG in_Shortage hown hK hP 0 rfl rfl 4 (by decide) (hG _ m_181) (fun _ h9 => h9) rfl d_Shortage_push_29 ?_
          refine lv_iload_n hx hb d_Shortage_push_32 rfl (lv_at hl 2 rfl) ?_
          refine hw_iald (f := IT0) hx hb hK hP 3 0 rfl rfl (by decide) (by omega) d_Shortage_push_33 ?_
          refine hw_top (t := (IT0 x3_10).toNatClampNeg) (by rw [e1, nI_clamp (by omega)]) ?_
          refine lv_bipush (v := nI 34) hx hb d_Shortage_push_34 (by decide) ?_
          refine hw_imul hx hb d_Shortage_push_36 ?_
          refine lv_iload_n hx hb d_Shortage_push_37 rfl (lv_at hl 2 rfl) ?_
          refine hw_iadd hx hb d_Shortage_push_38 ?_
          refine hw_lald (f := LT0) hx hb hK hP 2 1 rfl rfl (by decide) (by omega) d_Shortage_push_39 ?_
          refine hw_mmin hx hb (hml.trans hl.1.symm) hown (hG _ m_606) (hG _ m_407) (hG _ m_12) (hG _ m_408) (Nat.le_of_ble_eq_true rfl) (Nat.le_of_ble_eq_true rfl) (Nat.zero_le _) (Nat.zero_le _) d_Shortage_push_40 ?_
          refine lv_lstore_n (lv' := [(1, .long (hh_min x1_10 (LT0 ((((IT0 x3_10).toNatClampNeg) * 34) + x3_10)))), (0, .ref (aT 0)), (3, .int (nI x3_10)), (4, .int (nI x4_10))]) hx hb d_Shortage_push_43 rfl hl (by decide) rfl (fun ls hl => ?_)
          refine lv_aload_n hx hb d_Shortage_push_44 rfl (lv_at hl 1 rfl) ?_
          refine va_get (D := (dC, dI)) (ci := 1) (v := .ref (aT 3)) (C := R_Shortage) (T := T_Shortage) (N := 6) hx hb hG in_Shortage hown hK hP 0 rfl rfl 4 (by decide) (hG _ m_181) (fun _ h9 => h9) rfl d_Shortage_push_45 ?_
          refine lv_iload_n hx hb d_Shortage_push_48 rfl (lv_at hl 2 rfl) ?_
          refine hw_iald (f := IT0) hx hb hK hP 3 0 rfl rfl (by decide) (by omega) d_Shortage_push_49 ?_
          refine hw_top (t := (IT0 x3_10).toNatClampNeg) (by rw [e1, nI_clamp (by omega)]) ?_
          refine lv_istore_n (lv' := [(3, .int (nI ((IT0 x3_10).toNatClampNeg))), (1, .long (hh_min x1_10 (LT0 ((((IT0 x3_10).toNatClampNeg) * 34) + x3_10)))), (0, .ref (aT 0)), (4, .int (nI x4_10))]) hx hb d_Shortage_push_50 rfl hl (by decide) rfl (fun ls hl => ?_)
          refine lv_iinc (v := nI (x4_10 + 1)) (lv' := [(4, .int (nI (x4_10 + 1))), (3, .int (nI ((IT0 x3_10).toNatClampNeg))), (1, .long (hh_min x1_10 (LT0 ((((IT0 x3_10).toNatClampNeg) * 34) + x3_10)))), (0, .ref (aT 0))]) hx hb d_Shortage_push_51 hl (k := 3) rfl (hw_inc _ 1) (by decide) rfl (fun ls hl => ?_)
          refine lv_goto (tgt := 10) hx hb d_Shortage_push_54 (by decide) ?_
          rw [hrec_10] at hR
          exact ih_10 (hh_min x1_10 (LT0 ((((IT0 x3_10).toNatClampNeg) * 34) + x3_10))) ((IT0 x3_10).toNatClampNeg) (x4_10 + 1) (by first | assumption | omega | exact hw_upb (by assumption) (by omega)) (by rw [e3]; exact hu0) (by omega) H locs hP hD hS ls (lv_sub hl [3, 2, 1, 0] rfl) hR
  exact L_10 35 1099511627776 33 0 (by first | assumption | omega | exact hw_upb (by assumption) (by omega)) (by first | assumption | omega | exact hw_upb (by assumption) (by omega)) (by omega) H locs hP hD hS ls (lv_sub hl [3, 2, 1, 0] rfl) hR
