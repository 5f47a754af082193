abbrev b_HaulFlows_list : ByteArray := prog_1_method_16_code
def y_HaulFlows_list : MethodName := ⟨R_HaulFlows, "list", "(III)I"⟩
def u_HaulFlows_list : List Cond := Cond.code y_HaulFlows_list b_HaulFlows_list 7 (some .int) :: wG
theorem d_HaulFlows_list_0 : decode b_HaulFlows_list 0 = .ok (.aload_n 0, 1) := by decide +kernel
theorem d_HaulFlows_list_1 : decode b_HaulFlows_list 1 = .ok (.getfield 35, 3) := by decide +kernel
theorem d_HaulFlows_list_4 : decode b_HaulFlows_list 4 = .ok (.iconst 1, 1) := by decide +kernel
theorem d_HaulFlows_list_5 : decode b_HaulFlows_list 5 = .ok (.if_icmp .ne 24, 3) := by decide +kernel
theorem d_HaulFlows_list_8 : decode b_HaulFlows_list 8 = .ok (.iload_n 1, 1) := by decide +kernel
theorem d_HaulFlows_list_9 : decode b_HaulFlows_list 9 = .ok (.bipush 12, 2) := by decide +kernel
theorem d_HaulFlows_list_11 : decode b_HaulFlows_list 11 = .ok (.invokestatic 43, 3) := by decide +kernel
theorem d_HaulFlows_list_14 : decode b_HaulFlows_list 14 = .ok (.ifCond .eq 15, 3) := by decide +kernel
theorem d_HaulFlows_list_17 : decode b_HaulFlows_list 17 = .ok (.iload_n 2, 1) := by decide +kernel
theorem d_HaulFlows_list_18 : decode b_HaulFlows_list 18 = .ok (.ifCond .lt 11, 3) := by decide +kernel
theorem d_HaulFlows_list_21 : decode b_HaulFlows_list 21 = .ok (.iload_n 3, 1) := by decide +kernel
theorem d_HaulFlows_list_22 : decode b_HaulFlows_list 22 = .ok (.iconst 3, 1) := by decide +kernel
theorem d_HaulFlows_list_23 : decode b_HaulFlows_list 23 = .ok (.invokestatic 43, 3) := by decide +kernel
theorem d_HaulFlows_list_26 : decode b_HaulFlows_list 26 = .ok (.ifCond .ne 5, 3) := by decide +kernel
theorem d_HaulFlows_list_29 : decode b_HaulFlows_list 29 = .ok (.iconst (-1), 1) := by decide +kernel
theorem d_HaulFlows_list_30 : decode b_HaulFlows_list 30 = .ok (.ireturn, 1) := by decide +kernel
theorem d_HaulFlows_list_31 : decode b_HaulFlows_list 31 = .ok (.iload_n 2, 1) := by decide +kernel
theorem d_HaulFlows_list_32 : decode b_HaulFlows_list 32 = .ok (.istore 4, 2) := by decide +kernel
theorem d_HaulFlows_list_34 : decode b_HaulFlows_list 34 = .ok (.iconst 0, 1) := by decide +kernel
theorem d_HaulFlows_list_35 : decode b_HaulFlows_list 35 = .ok (.istore 5, 2) := by decide +kernel
theorem d_HaulFlows_list_37 : decode b_HaulFlows_list 37 = .ok (.iload 5, 2) := by decide +kernel
theorem d_HaulFlows_list_39 : decode b_HaulFlows_list 39 = .ok (.aload_n 0, 1) := by decide +kernel
theorem d_HaulFlows_list_40 : decode b_HaulFlows_list 40 = .ok (.getfield 12, 3) := by decide +kernel
theorem d_HaulFlows_list_43 : decode b_HaulFlows_list 43 = .ok (.invokevirtual 110, 3) := by decide +kernel
theorem d_HaulFlows_list_46 : decode b_HaulFlows_list 46 = .ok (.if_icmp .ge 103, 3) := by decide +kernel
theorem d_HaulFlows_list_49 : decode b_HaulFlows_list 49 = .ok (.iconst 0, 1) := by decide +kernel
theorem d_HaulFlows_list_50 : decode b_HaulFlows_list 50 = .ok (.istore 6, 2) := by decide +kernel
theorem d_HaulFlows_list_52 : decode b_HaulFlows_list 52 = .ok (.iload 6, 2) := by decide +kernel
theorem d_HaulFlows_list_54 : decode b_HaulFlows_list 54 = .ok (.aload_n 0, 1) := by decide +kernel
theorem d_HaulFlows_list_55 : decode b_HaulFlows_list 55 = .ok (.getfield 12, 3) := by decide +kernel
theorem d_HaulFlows_list_58 : decode b_HaulFlows_list 58 = .ok (.getfield 57, 3) := by decide +kernel
theorem d_HaulFlows_list_61 : decode b_HaulFlows_list 61 = .ok (.if_icmp .ge 82, 3) := by decide +kernel
theorem d_HaulFlows_list_64 : decode b_HaulFlows_list 64 = .ok (.aload_n 0, 1) := by decide +kernel
theorem d_HaulFlows_list_65 : decode b_HaulFlows_list 65 = .ok (.getfield 12, 3) := by decide +kernel
theorem d_HaulFlows_list_68 : decode b_HaulFlows_list 68 = .ok (.getfield 165, 3) := by decide +kernel
theorem d_HaulFlows_list_71 : decode b_HaulFlows_list 71 = .ok (.iload 6, 2) := by decide +kernel
theorem d_HaulFlows_list_73 : decode b_HaulFlows_list 73 = .ok (.iaload, 1) := by decide +kernel
theorem d_HaulFlows_list_74 : decode b_HaulFlows_list 74 = .ok (.iload_n 1, 1) := by decide +kernel
theorem d_HaulFlows_list_75 : decode b_HaulFlows_list 75 = .ok (.if_icmp .ne 62, 3) := by decide +kernel
theorem d_HaulFlows_list_78 : decode b_HaulFlows_list 78 = .ok (.aload_n 0, 1) := by decide +kernel
theorem d_HaulFlows_list_79 : decode b_HaulFlows_list 79 = .ok (.getfield 21, 3) := by decide +kernel
theorem d_HaulFlows_list_82 : decode b_HaulFlows_list 82 = .ok (.iload 5, 2) := by decide +kernel
theorem d_HaulFlows_list_84 : decode b_HaulFlows_list 84 = .ok (.iload 6, 2) := by decide +kernel
theorem d_HaulFlows_list_86 : decode b_HaulFlows_list 86 = .ok (.invokevirtual 126, 3) := by decide +kernel
theorem d_HaulFlows_list_89 : decode b_HaulFlows_list 89 = .ok (.lconst 0, 1) := by decide +kernel
theorem d_HaulFlows_list_90 : decode b_HaulFlows_list 90 = .ok (.lcmp, 1) := by decide +kernel
theorem d_HaulFlows_list_91 : decode b_HaulFlows_list 91 = .ok (.ifCond .ne 6, 3) := by decide +kernel
theorem d_HaulFlows_list_94 : decode b_HaulFlows_list 94 = .ok (.goto 43, 3) := by decide +kernel
theorem d_HaulFlows_list_97 : decode b_HaulFlows_list 97 = .ok (.iload 4, 2) := by decide +kernel
theorem d_HaulFlows_list_99 : decode b_HaulFlows_list 99 = .ok (.ifCond .ne 35, 3) := by decide +kernel
theorem d_HaulFlows_list_102 : decode b_HaulFlows_list 102 = .ok (.iload_n 3, 1) := by decide +kernel
theorem d_HaulFlows_list_103 : decode b_HaulFlows_list 103 = .ok (.ifCond .ne 8, 3) := by decide +kernel
theorem d_HaulFlows_list_106 : decode b_HaulFlows_list 106 = .ok (.iload 5, 2) := by decide +kernel
theorem d_HaulFlows_list_108 : decode b_HaulFlows_list 108 = .ok (.goto 25, 3) := by decide +kernel
theorem d_HaulFlows_list_111 : decode b_HaulFlows_list 111 = .ok (.iload_n 3, 1) := by decide +kernel
theorem d_HaulFlows_list_112 : decode b_HaulFlows_list 112 = .ok (.iconst 1, 1) := by decide +kernel
theorem d_HaulFlows_list_113 : decode b_HaulFlows_list 113 = .ok (.if_icmp .ne 8, 3) := by decide +kernel
theorem d_HaulFlows_list_116 : decode b_HaulFlows_list 116 = .ok (.iload 6, 2) := by decide +kernel
theorem d_HaulFlows_list_118 : decode b_HaulFlows_list 118 = .ok (.goto 15, 3) := by decide +kernel
theorem d_HaulFlows_list_121 : decode b_HaulFlows_list 121 = .ok (.aload_n 0, 1) := by decide +kernel
theorem d_HaulFlows_list_122 : decode b_HaulFlows_list 122 = .ok (.getfield 21, 3) := by decide +kernel
theorem d_HaulFlows_list_125 : decode b_HaulFlows_list 125 = .ok (.iload 5, 2) := by decide +kernel
theorem d_HaulFlows_list_127 : decode b_HaulFlows_list 127 = .ok (.iload 6, 2) := by decide +kernel
theorem d_HaulFlows_list_129 : decode b_HaulFlows_list 129 = .ok (.invokevirtual 126, 3) := by decide +kernel
theorem d_HaulFlows_list_132 : decode b_HaulFlows_list 132 = .ok (.l2i, 1) := by decide +kernel
theorem d_HaulFlows_list_133 : decode b_HaulFlows_list 133 = .ok (.ireturn, 1) := by decide +kernel
theorem d_HaulFlows_list_134 : decode b_HaulFlows_list 134 = .ok (.iinc 4 (-1), 3) := by decide +kernel
theorem d_HaulFlows_list_137 : decode b_HaulFlows_list 137 = .ok (.iinc 6 1, 3) := by decide +kernel
theorem d_HaulFlows_list_140 : decode b_HaulFlows_list 140 = .ok (.goto (-88), 3) := by decide +kernel
theorem d_HaulFlows_list_143 : decode b_HaulFlows_list 143 = .ok (.iinc 5 1, 3) := by decide +kernel
theorem d_HaulFlows_list_146 : decode b_HaulFlows_list 146 = .ok (.goto (-109), 3) := by decide +kernel
theorem d_HaulFlows_list_149 : decode b_HaulFlows_list 149 = .ok (.iconst (-1), 1) := by decide +kernel
theorem d_HaulFlows_list_150 : decode b_HaulFlows_list 150 = .ok (.ireturn, 1) := by decide +kernel
abbrev b_HaulFlows_check : ByteArray := prog_1_method_18_code
def y_HaulFlows_check : MethodName := ⟨R_HaulFlows, "check", "()I"⟩
def u_HaulFlows_check : List Cond := Cond.code y_HaulFlows_check b_HaulFlows_check 2 (some .int) :: wG
theorem d_HaulFlows_check_0 : decode b_HaulFlows_check 0 = .ok (.aload_n 0, 1) := by decide +kernel
theorem d_HaulFlows_check_1 : decode b_HaulFlows_check 1 = .ok (.getfield 35, 3) := by decide +kernel
theorem d_HaulFlows_check_4 : decode b_HaulFlows_check 4 = .ok (.iconst 1, 1) := by decide +kernel
theorem d_HaulFlows_check_5 : decode b_HaulFlows_check 5 = .ok (.if_icmp .eq 5, 3) := by decide +kernel
theorem d_HaulFlows_check_8 : decode b_HaulFlows_check 8 = .ok (.iconst (-1), 1) := by decide +kernel
theorem d_HaulFlows_check_9 : decode b_HaulFlows_check 9 = .ok (.ireturn, 1) := by decide +kernel
theorem d_HaulFlows_check_10 : decode b_HaulFlows_check 10 = .ok (.iconst 0, 1) := by decide +kernel
theorem d_HaulFlows_check_11 : decode b_HaulFlows_check 11 = .ok (.istore_n 1, 1) := by decide +kernel
theorem d_HaulFlows_check_12 : decode b_HaulFlows_check 12 = .ok (.iload_n 1, 1) := by decide +kernel
theorem d_HaulFlows_check_13 : decode b_HaulFlows_check 13 = .ok (.aload_n 0, 1) := by decide +kernel
theorem d_HaulFlows_check_14 : decode b_HaulFlows_check 14 = .ok (.getfield 12, 3) := by decide +kernel
theorem d_HaulFlows_check_17 : decode b_HaulFlows_check 17 = .ok (.invokevirtual 110, 3) := by decide +kernel
theorem d_HaulFlows_check_20 : decode b_HaulFlows_check 20 = .ok (.if_icmp .ge 36, 3) := by decide +kernel
theorem d_HaulFlows_check_23 : decode b_HaulFlows_check 23 = .ok (.aload_n 0, 1) := by decide +kernel
theorem d_HaulFlows_check_24 : decode b_HaulFlows_check 24 = .ok (.getfield 21, 3) := by decide +kernel
theorem d_HaulFlows_check_27 : decode b_HaulFlows_check 27 = .ok (.iload_n 1, 1) := by decide +kernel
theorem d_HaulFlows_check_28 : decode b_HaulFlows_check 28 = .ok (.iload_n 1, 1) := by decide +kernel
theorem d_HaulFlows_check_29 : decode b_HaulFlows_check 29 = .ok (.iconst 1, 1) := by decide +kernel
theorem d_HaulFlows_check_30 : decode b_HaulFlows_check 30 = .ok (.iadd, 1) := by decide +kernel
theorem d_HaulFlows_check_31 : decode b_HaulFlows_check 31 = .ok (.invokevirtual 137, 3) := by decide +kernel
theorem d_HaulFlows_check_34 : decode b_HaulFlows_check 34 = .ok (.aload_n 0, 1) := by decide +kernel
theorem d_HaulFlows_check_35 : decode b_HaulFlows_check 35 = .ok (.getfield 12, 3) := by decide +kernel
theorem d_HaulFlows_check_38 : decode b_HaulFlows_check 38 = .ok (.iload_n 1, 1) := by decide +kernel
theorem d_HaulFlows_check_39 : decode b_HaulFlows_check 39 = .ok (.invokevirtual 179, 3) := by decide +kernel
theorem d_HaulFlows_check_42 : decode b_HaulFlows_check 42 = .ok (.lcmp, 1) := by decide +kernel
theorem d_HaulFlows_check_43 : decode b_HaulFlows_check 43 = .ok (.ifCond .le 7, 3) := by decide +kernel
theorem d_HaulFlows_check_46 : decode b_HaulFlows_check 46 = .ok (.iconst 1, 1) := by decide +kernel
theorem d_HaulFlows_check_47 : decode b_HaulFlows_check 47 = .ok (.iload_n 1, 1) := by decide +kernel
theorem d_HaulFlows_check_48 : decode b_HaulFlows_check 48 = .ok (.iadd, 1) := by decide +kernel
theorem d_HaulFlows_check_49 : decode b_HaulFlows_check 49 = .ok (.ireturn, 1) := by decide +kernel
theorem d_HaulFlows_check_50 : decode b_HaulFlows_check 50 = .ok (.iinc 1 1, 3) := by decide +kernel
theorem d_HaulFlows_check_53 : decode b_HaulFlows_check 53 = .ok (.goto (-41), 3) := by decide +kernel
theorem d_HaulFlows_check_56 : decode b_HaulFlows_check 56 = .ok (.iconst 0, 1) := by decide +kernel
theorem d_HaulFlows_check_57 : decode b_HaulFlows_check 57 = .ok (.istore_n 1, 1) := by decide +kernel
theorem d_HaulFlows_check_58 : decode b_HaulFlows_check 58 = .ok (.iload_n 1, 1) := by decide +kernel
theorem d_HaulFlows_check_59 : decode b_HaulFlows_check 59 = .ok (.aload_n 0, 1) := by decide +kernel
theorem d_HaulFlows_check_60 : decode b_HaulFlows_check 60 = .ok (.getfield 12, 3) := by decide +kernel
theorem d_HaulFlows_check_63 : decode b_HaulFlows_check 63 = .ok (.getfield 57, 3) := by decide +kernel
theorem d_HaulFlows_check_66 : decode b_HaulFlows_check 66 = .ok (.if_icmp .ge 35, 3) := by decide +kernel
theorem d_HaulFlows_check_69 : decode b_HaulFlows_check 69 = .ok (.aload_n 0, 1) := by decide +kernel
theorem d_HaulFlows_check_70 : decode b_HaulFlows_check 70 = .ok (.getfield 21, 3) := by decide +kernel
theorem d_HaulFlows_check_73 : decode b_HaulFlows_check 73 = .ok (.iload_n 1, 1) := by decide +kernel
theorem d_HaulFlows_check_74 : decode b_HaulFlows_check 74 = .ok (.invokevirtual 182, 3) := by decide +kernel
theorem d_HaulFlows_check_77 : decode b_HaulFlows_check 77 = .ok (.aload_n 0, 1) := by decide +kernel
theorem d_HaulFlows_check_78 : decode b_HaulFlows_check 78 = .ok (.getfield 12, 3) := by decide +kernel
theorem d_HaulFlows_check_81 : decode b_HaulFlows_check 81 = .ok (.getfield 185, 3) := by decide +kernel
theorem d_HaulFlows_check_84 : decode b_HaulFlows_check 84 = .ok (.iload_n 1, 1) := by decide +kernel
theorem d_HaulFlows_check_85 : decode b_HaulFlows_check 85 = .ok (.laload, 1) := by decide +kernel
theorem d_HaulFlows_check_86 : decode b_HaulFlows_check 86 = .ok (.lcmp, 1) := by decide +kernel
theorem d_HaulFlows_check_87 : decode b_HaulFlows_check 87 = .ok (.ifCond .eq 8, 3) := by decide +kernel
theorem d_HaulFlows_check_90 : decode b_HaulFlows_check 90 = .ok (.bipush 13, 2) := by decide +kernel
theorem d_HaulFlows_check_92 : decode b_HaulFlows_check 92 = .ok (.iload_n 1, 1) := by decide +kernel
theorem d_HaulFlows_check_93 : decode b_HaulFlows_check 93 = .ok (.iadd, 1) := by decide +kernel
theorem d_HaulFlows_check_94 : decode b_HaulFlows_check 94 = .ok (.ireturn, 1) := by decide +kernel
theorem d_HaulFlows_check_95 : decode b_HaulFlows_check 95 = .ok (.iinc 1 1, 3) := by decide +kernel
theorem d_HaulFlows_check_98 : decode b_HaulFlows_check 98 = .ok (.goto (-40), 3) := by decide +kernel
theorem d_HaulFlows_check_101 : decode b_HaulFlows_check 101 = .ok (.iconst 0, 1) := by decide +kernel
theorem d_HaulFlows_check_102 : decode b_HaulFlows_check 102 = .ok (.istore_n 1, 1) := by decide +kernel
theorem d_HaulFlows_check_103 : decode b_HaulFlows_check 103 = .ok (.iload_n 1, 1) := by decide +kernel
theorem d_HaulFlows_check_104 : decode b_HaulFlows_check 104 = .ok (.bipush 12, 2) := by decide +kernel
theorem d_HaulFlows_check_106 : decode b_HaulFlows_check 106 = .ok (.if_icmp .ge 35, 3) := by decide +kernel
theorem d_HaulFlows_check_109 : decode b_HaulFlows_check 109 = .ok (.aload_n 0, 1) := by decide +kernel
theorem d_HaulFlows_check_110 : decode b_HaulFlows_check 110 = .ok (.getfield 21, 3) := by decide +kernel
theorem d_HaulFlows_check_113 : decode b_HaulFlows_check 113 = .ok (.iload_n 1, 1) := by decide +kernel
theorem d_HaulFlows_check_114 : decode b_HaulFlows_check 114 = .ok (.invokevirtual 188, 3) := by decide +kernel
theorem d_HaulFlows_check_117 : decode b_HaulFlows_check 117 = .ok (.aload_n 0, 1) := by decide +kernel
theorem d_HaulFlows_check_118 : decode b_HaulFlows_check 118 = .ok (.getfield 12, 3) := by decide +kernel
theorem d_HaulFlows_check_121 : decode b_HaulFlows_check 121 = .ok (.getfield 107, 3) := by decide +kernel
theorem d_HaulFlows_check_124 : decode b_HaulFlows_check 124 = .ok (.iload_n 1, 1) := by decide +kernel
theorem d_HaulFlows_check_125 : decode b_HaulFlows_check 125 = .ok (.laload, 1) := by decide +kernel
theorem d_HaulFlows_check_126 : decode b_HaulFlows_check 126 = .ok (.lcmp, 1) := by decide +kernel
theorem d_HaulFlows_check_127 : decode b_HaulFlows_check 127 = .ok (.ifCond .le 8, 3) := by decide +kernel
theorem d_HaulFlows_check_130 : decode b_HaulFlows_check 130 = .ok (.bipush 21, 2) := by decide +kernel
theorem d_HaulFlows_check_132 : decode b_HaulFlows_check 132 = .ok (.iload_n 1, 1) := by decide +kernel
theorem d_HaulFlows_check_133 : decode b_HaulFlows_check 133 = .ok (.iadd, 1) := by decide +kernel
theorem d_HaulFlows_check_134 : decode b_HaulFlows_check 134 = .ok (.ireturn, 1) := by decide +kernel
theorem d_HaulFlows_check_135 : decode b_HaulFlows_check 135 = .ok (.iinc 1 1, 3) := by decide +kernel
theorem d_HaulFlows_check_138 : decode b_HaulFlows_check 138 = .ok (.goto (-35), 3) := by decide +kernel
theorem d_HaulFlows_check_141 : decode b_HaulFlows_check 141 = .ok (.iconst 0, 1) := by decide +kernel
theorem d_HaulFlows_check_142 : decode b_HaulFlows_check 142 = .ok (.ireturn, 1) := by decide +kernel
abbrev b_HaulFlows_level : ByteArray := prog_1_method_19_code
def y_HaulFlows_level : MethodName := ⟨R_HaulFlows, "level", "(II)J"⟩
def u_HaulFlows_level : List Cond := Cond.code y_HaulFlows_level b_HaulFlows_level 5 (some .long) :: wG
theorem d_HaulFlows_level_0 : decode b_HaulFlows_level 0 = .ok (.aload_n 0, 1) := by decide +kernel
theorem d_HaulFlows_level_1 : decode b_HaulFlows_level 1 = .ok (.getfield 35, 3) := by decide +kernel
theorem d_HaulFlows_level_4 : decode b_HaulFlows_level 4 = .ok (.iconst 1, 1) := by decide +kernel
theorem d_HaulFlows_level_5 : decode b_HaulFlows_level 5 = .ok (.if_icmp .ne 25, 3) := by decide +kernel
theorem d_HaulFlows_level_8 : decode b_HaulFlows_level 8 = .ok (.iload_n 1, 1) := by decide +kernel
theorem d_HaulFlows_level_9 : decode b_HaulFlows_level 9 = .ok (.aload_n 0, 1) := by decide +kernel
theorem d_HaulFlows_level_10 : decode b_HaulFlows_level 10 = .ok (.getfield 12, 3) := by decide +kernel
theorem d_HaulFlows_level_13 : decode b_HaulFlows_level 13 = .ok (.getfield 50, 3) := by decide +kernel
theorem d_HaulFlows_level_16 : decode b_HaulFlows_level 16 = .ok (.invokestatic 43, 3) := by decide +kernel
theorem d_HaulFlows_level_19 : decode b_HaulFlows_level 19 = .ok (.ifCond .eq 11, 3) := by decide +kernel
theorem d_HaulFlows_level_22 : decode b_HaulFlows_level 22 = .ok (.iload_n 2, 1) := by decide +kernel
theorem d_HaulFlows_level_23 : decode b_HaulFlows_level 23 = .ok (.iconst 2, 1) := by decide +kernel
theorem d_HaulFlows_level_24 : decode b_HaulFlows_level 24 = .ok (.invokestatic 43, 3) := by decide +kernel
theorem d_HaulFlows_level_27 : decode b_HaulFlows_level 27 = .ok (.ifCond .ne 7, 3) := by decide +kernel
theorem d_HaulFlows_level_30 : decode b_HaulFlows_level 30 = .ok (.ldc2_w 124, 3) := by decide +kernel
theorem d_HaulFlows_level_33 : decode b_HaulFlows_level 33 = .ok (.lreturn, 1) := by decide +kernel
theorem d_HaulFlows_level_34 : decode b_HaulFlows_level 34 = .ok (.aload_n 0, 1) := by decide +kernel
theorem d_HaulFlows_level_35 : decode b_HaulFlows_level 35 = .ok (.getfield 12, 3) := by decide +kernel
theorem d_HaulFlows_level_38 : decode b_HaulFlows_level 38 = .ok (.iload_n 1, 1) := by decide +kernel
theorem d_HaulFlows_level_39 : decode b_HaulFlows_level 39 = .ok (.invokevirtual 148, 3) := by decide +kernel
theorem d_HaulFlows_level_42 : decode b_HaulFlows_level 42 = .ok (.lstore_n 3, 1) := by decide +kernel
theorem d_HaulFlows_level_43 : decode b_HaulFlows_level 43 = .ok (.iload_n 2, 1) := by decide +kernel
theorem d_HaulFlows_level_44 : decode b_HaulFlows_level 44 = .ok (.ifCond .ne 19, 3) := by decide +kernel
theorem d_HaulFlows_level_47 : decode b_HaulFlows_level 47 = .ok (.lload_n 3, 1) := by decide +kernel
theorem d_HaulFlows_level_48 : decode b_HaulFlows_level 48 = .ok (.aload_n 0, 1) := by decide +kernel
theorem d_HaulFlows_level_49 : decode b_HaulFlows_level 49 = .ok (.getfield 21, 3) := by decide +kernel
theorem d_HaulFlows_level_52 : decode b_HaulFlows_level 52 = .ok (.iload_n 1, 1) := by decide +kernel
theorem d_HaulFlows_level_53 : decode b_HaulFlows_level 53 = .ok (.iload_n 1, 1) := by decide +kernel
theorem d_HaulFlows_level_54 : decode b_HaulFlows_level 54 = .ok (.iconst 1, 1) := by decide +kernel
theorem d_HaulFlows_level_55 : decode b_HaulFlows_level 55 = .ok (.iadd, 1) := by decide +kernel
theorem d_HaulFlows_level_56 : decode b_HaulFlows_level 56 = .ok (.invokevirtual 137, 3) := by decide +kernel
theorem d_HaulFlows_level_59 : decode b_HaulFlows_level 59 = .ok (.lsub, 1) := by decide +kernel
theorem d_HaulFlows_level_60 : decode b_HaulFlows_level 60 = .ok (.goto 4, 3) := by decide +kernel
theorem d_HaulFlows_level_63 : decode b_HaulFlows_level 63 = .ok (.lload_n 3, 1) := by decide +kernel
theorem d_HaulFlows_level_64 : decode b_HaulFlows_level 64 = .ok (.lreturn, 1) := by decide +kernel
def f_HaulFlows_list_h52B (VS2 : Nat) (NS2 : Nat → Nat) (x1 : Int32) (LP1 : Nat → Int64) (x5_37 : Nat) (x3 : Int32) (k_52 : (Int32) → (Nat) → Int32) (rec_52 : (Int32) → (Nat) → Int32) (x4_52 : Int32) (x6_52 : Nat) : Int32 :=
  if VS2 ≤ x6_52 then (k_52 x4_52 x6_52) else (if (nI (NS2 x6_52)) = x1 then (hh_bind (f_Plan_amount LP1 x5_37 x6_52) (fun y86 => if y86 = 0 then (rec_52 x4_52 (x6_52 + 1)) else (if x4_52 = 0 then (if x3 = 0 then (nI x5_37) else (if x3 = (nI 1) then (nI x6_52) else (hh_bind (f_Plan_amount LP1 x5_37 x6_52) (fun y129 => (y129.toInt32))))) else (rec_52 (x4_52 + (-1)) (x6_52 + 1))))) else (rec_52 x4_52 (x6_52 + 1)))
def f_HaulFlows_list_h52 (VS2 : Nat) (NS2 : Nat → Nat) (x1 : Int32) (LP1 : Nat → Int64) (x5_37 : Nat) (x3 : Int32) (k_52 : (Int32) → (Nat) → Int32) : Nat → (Int32) → (Nat) → Int32
  | 0, x4_52, x6_52 => k_52 x4_52 x6_52
  | n + 1, x4_52, x6_52 => f_HaulFlows_list_h52B VS2 NS2 x1 LP1 x5_37 x3 k_52 (fun x4_52 x6_52 => f_HaulFlows_list_h52 VS2 NS2 x1 LP1 x5_37 x3 k_52 n x4_52 x6_52) x4_52 x6_52
def f_HaulFlows_list_x52 (rec_37 : (Int32) → (Nat) → Int32) (x5_37 : Nat) (x4_52 : Int32) (x6_52 : Nat) : Int32 :=
  rec_37 x4_52 (x5_37 + 1)
def f_HaulFlows_list_h37B (VS0 : Nat) (VS1 : Nat) (VS2 : Nat) (NS2 : Nat → Nat) (x1 : Int32) (LP1 : Nat → Int64) (x3 : Int32) (k_37 : (Int32) → (Nat) → Int32) (rec_37 : (Int32) → (Nat) → Int32) (x4_37 : Int32) (x5_37 : Nat) : Int32 :=
  hh_bind (f_Site_sources VS0 VS1) (fun y43 => if y43 ≤ x5_37 then (k_37 x4_37 x5_37) else (f_HaulFlows_list_h52 VS2 NS2 x1 LP1 x5_37 x3 (f_HaulFlows_list_x52 rec_37 x5_37) 9 x4_37 0))
def f_HaulFlows_list_h37 (VS0 : Nat) (VS1 : Nat) (VS2 : Nat) (NS2 : Nat → Nat) (x1 : Int32) (LP1 : Nat → Int64) (x3 : Int32) (k_37 : (Int32) → (Nat) → Int32) : Nat → (Int32) → (Nat) → Int32
  | 0, x4_37, x5_37 => k_37 x4_37 x5_37
  | n + 1, x4_37, x5_37 => f_HaulFlows_list_h37B VS0 VS1 VS2 NS2 x1 LP1 x3 k_37 (fun x4_37 x5_37 => f_HaulFlows_list_h37 VS0 VS1 VS2 NS2 x1 LP1 x3 k_37 n x4_37 x5_37) x4_37 x5_37
def f_HaulFlows_list_x37  (x4_37 : Int32) (x5_37 : Nat) : Int32 :=
  ((-1))
def f_HaulFlows_list (VH0 : Nat) (VS0 : Nat) (VS1 : Nat) (VS2 : Nat) (NS2 : Nat → Nat) (LP1 : Nat → Int64) (x1 : Int32) (x2 : Int32) (x3 : Int32) : Int32 :=
  if VH0 = 1 then (hh_bind (f_HaulFlows_isBelow x1 (nI 12)) (fun y11 => if y11 = 0 then ((-1)) else (if x2 < 0 then ((-1)) else (hh_bind (f_HaulFlows_isBelow x3 (nI 3)) (fun y23 => if y23 = 0 then ((-1)) else (f_HaulFlows_list_h37 VS0 VS1 VS2 NS2 x1 LP1 x3 f_HaulFlows_list_x37 13 x2 0)))))) else ((-1))
set_option maxHeartbeats 4000000 in
set_option maxRecDepth 100000 in
theorem c_HaulFlows_list (l : Launch) (dC : Nat → ClassId) (dI : Nat → Nat → Nat) (cI cJ cZ : ClassId) (sz : Nat) (aH : Nat → Nat) (VH0 : Nat) (aS : Nat → Nat) (VS0 : Nat) (VS1 : Nat) (VS2 : Nat) (NS0 : Nat → Nat) (NS1 : Nat → Nat) (NS2 : Nat → Nat) (LS0 : Nat → Int64) (LS1 : Nat → Int64) (LS2 : Nat → Int64) (LS3 : Nat → Int64) (LS4 : Nat → Int64) (LS5 : Nat → Int64) (LS6 : Nat → Int64) (LS7 : Nat → Int64) (LS8 : Nat → Int64) (IS0 : Nat → Int32) (aY : Nat → Nat) (VY0 : Nat) (LY0 : Nat → Int64) (LY1 : Nat → Int64) (LY2 : Nat → Int64) (IY0 : Nat → Int32) (aP : Nat → Nat) (VP0 : Nat) (VP1 : Nat) (VP2 : Nat) (NP0 : Nat → Nat) (LP0 : Nat → Int64) (LP1 : Nat → Int64) (LP2 : Nat → Int64) (LP3 : Nat → Int64) (LP4 : Nat → Int64) (IP0 : Nat → Int32) (IP1 : Nat → Int32) (aQ : Nat → Nat) (VQ0 : Nat) (VQ1 : Nat) (VQ2 : Nat) (NQ0 : Nat → Nat) (LQ0 : Nat → Int64) (LQ1 : Nat → Int64) (LQ2 : Nat → Int64) (LQ3 : Nat → Int64) (LQ4 : Nat → Int64) (IQ0 : Nat → Int32) (IQ1 : Nat → Int32) (aT : Nat → Nat) (VT0 : Nat) (NT0 : Nat → Nat) (NT1 : Nat → Nat) (LT0 : Nat → Int64) (IT0 : Nat → Int32) (x1 : Int32) (x2 : Int32) (x3 : Int32) (hc8 : VS0 ≤ 8) (hp4 : VS1 ≤ 4) (hf8 : VS2 ≤ 8) (hy6 : VY0 ≤ 6) (hk4 : ∀ i, NS0 i < 4) (hcw : ∀ i, NS1 i < 12) (hfw : ∀ i, NS2 i < 12) (hq : ∀ i, NP0 i < 21) (htq : ∀ i, NT1 i < 34) (hst : VH0 ≤ 2) (hpl : VH0 = 1 → VP0 = VS0 + VS1 ∧ VP1 = VS2) (hsf : VT0 ≤ 8) : hh_Ci l y_HaulFlows_list u_HaulFlows_list ({ frames := 1, cells := 0, slots := 0, locals := 22 }) (dC, dI) vwCl [(cI, .int), (cJ, .long), (cZ, .boolean)] (w_H cI cJ cZ aH VH0 aS aP aQ aT ++ w_S cI cJ cZ aS VS0 VS1 VS2 NS0 NS1 NS2 LS0 LS1 LS2 LS3 LS4 LS5 LS6 LS7 LS8 IS0 aY ++ w_Y cI cJ cZ aY VY0 LY0 LY1 LY2 IY0 ++ w_P cI cJ cZ aP VP0 VP1 VP2 NP0 LP0 LP1 LP2 LP3 LP4 IP0 IP1 aS ++ w_P cI cJ cZ aQ VQ0 VQ1 VQ2 NQ0 LQ0 LQ1 LQ2 LQ3 LQ4 IQ0 IQ1 aS ++ w_T cI cJ cZ aT VT0 NT0 NT1 LT0 IT0 aS) sz [.ref (aH 0), .int x1, .int x2, .int x3] (f_HaulFlows_list VH0 VS0 VS1 VS2 NS2 LP1 x1 x2 x3) (w_H cI cJ cZ aH VH0 aS aP aQ aT ++ w_S cI cJ cZ aS VS0 VS1 VS2 NS0 NS1 NS2 LS0 LS1 LS2 LS3 LS4 LS5 LS6 LS7 LS8 IS0 aY ++ w_Y cI cJ cZ aY VY0 LY0 LY1 LY2 IY0 ++ w_P cI cJ cZ aP VP0 VP1 VP2 NP0 LP0 LP1 LP2 LP3 LP4 IP0 IP1 aS ++ w_P cI cJ cZ aQ VQ0 VQ1 VQ2 NQ0 LQ0 LQ1 LQ2 LQ3 LQ4 IQ0 IQ1 aS ++ w_T cI cJ cZ aT VT0 NT0 NT1 LT0 IT0 aS) 0 0 := by
  unfold hh_Ci
  refine Met.ofW (cc := b_HaulFlows_list) (maxL := 7) (ret := (some .int)) (by decide) rfl ?_
  intro p e s m args below meth c s₁ B hml hv
  obtain ⟨rfl, hsz, hP, hK, hD0⟩ := hv
  have hx := B.exec
  have hb := B.bytes
  have hr := B.returns
  have hts := atoms_spec (ws := u_HaulFlows_list) B.pre
  have hG : ∀ w ∈ wG, w.before ([.ref (aH 0), .int x1, .int x2, .int x3]).toArray s = true := fun w h => hts w (List.mem_cons_of_mem _ h)
  have hown : s.vm.findClass R_HaulFlows = some m.cls := findClass_of_methodNamed B.named
  have hlocks := B.notSynchronized
  subst hsz
  have hD := hD0.self (sz := s.heap.size)
  generalize hAe : va_A (w_H cI cJ cZ aH VH0 aS aP aQ aT ++ w_S cI cJ cZ aS VS0 VS1 VS2 NS0 NS1 NS2 LS0 LS1 LS2 LS3 LS4 LS5 LS6 LS7 LS8 IS0 aY ++ w_Y cI cJ cZ aY VY0 LY0 LY1 LY2 IY0 ++ w_P cI cJ cZ aP VP0 VP1 VP2 NP0 LP0 LP1 LP2 LP3 LP4 IP0 IP1 aS ++ w_P cI cJ cZ aQ VQ0 VQ1 VQ2 NQ0 LQ0 LQ1 LQ2 LQ3 LQ4 IQ0 IQ1 aS ++ w_T cI cJ cZ aT VT0 NT0 NT1 LT0 IT0 aS) s.heap.size = A at hD ⊢
  have hA : ∀ q : Nat, s.heap.size ≤ q → A q := fun q h => by rw [← hAe]; exact Or.inr h
  have hS : va_S A s.heap s.heap [] := va_S.rf
  have hl := lv_entry ([.ref (aH 0), .int x1, .int x2, .int x3]) (n := 7) (Nat.le_of_ble_eq_true rfl)
  rw [lg_entry_eq]
  generalize (lg_sl ([.ref (aH 0), .int x1, .int x2, .int x3]) ++ List.replicate (7 - (lg_sl ([.ref (aH 0), .int x1, .int x2, .int x3])).length) Slot.unset).toArray = ls at hl ⊢
  have hl : lv_has ls 7 [(0, .ref (aH 0)), (1, .int x1), (2, .int x2), (3, .int x3)] := hl
  generalize hR : f_HaulFlows_list VH0 VS0 VS1 VS2 NS2 LP1 x1 x2 x3 = r0
  obtain ⟨H, locs, hHe, hle⟩ : ∃ (H : Heap) (locs : List Loc), s.heap = H ∧ [] = locs := ⟨_, _, rfl, rfl⟩
  have hP : va_P (dC, dI) vwCl (w_H cI cJ cZ aH VH0 aS aP aQ aT ++ w_S cI cJ cZ aS VS0 VS1 VS2 NS0 NS1 NS2 LS0 LS1 LS2 LS3 LS4 LS5 LS6 LS7 LS8 IS0 aY ++ w_Y cI cJ cZ aY VY0 LY0 LY1 LY2 IY0 ++ w_P cI cJ cZ aP VP0 VP1 VP2 NP0 LP0 LP1 LP2 LP3 LP4 IP0 IP1 aS ++ w_P cI cJ cZ aQ VQ0 VQ1 VQ2 NQ0 LQ0 LQ1 LQ2 LQ3 LQ4 IQ0 IQ1 aS ++ w_T cI cJ cZ aT VT0 NT0 NT1 LT0 IT0 aS) H := by rw [← hHe]; exact hP
  have hS : va_S A s.heap H locs := by rw [← hHe, ← hle]; exact hS
  refine hw_start hHe hle ?_
  unfold f_HaulFlows_list at hR
  refine lv_aload_n hx hb d_HaulFlows_list_0 rfl (lv_at hl 0 rfl) ?_
  refine va_get (D := (dC, dI)) (ci := 4) (v := .int (nI VH0)) (C := R_HaulFlows) (T := T_HaulFlows) (N := 5) hx hb hG in_HaulFlows hown hK hP 0 rfl rfl 4 (by decide) (hG _ m_200) (fun _ h9 => h9) rfl d_HaulFlows_list_1 ?_
  refine lv_iconst (v := nI 1) hx hb d_HaulFlows_list_4 (by decide) ?_
  refine hw_icmp_ne (tgt := 29) hx hb d_HaulFlows_list_5 (by decide) (by omega) (by omega) (fun c5 => ?_) (fun c5 => ?_)
  · replace hR := (if_neg c5).symm.trans hR
    refine lv_iconst (v := (-1)) hx hb d_HaulFlows_list_29 (by decide) ?_
    subst hR
    exact W.iret (v := (-1)) hx hb hr (fun t ht hW => ⟨⟨_, (), rfl, rfl, by rw [ht]; exact hP, va_K.moved hW.alike hK, hD⟩, hS.F ht⟩) hS.2.2 d_HaulFlows_list_30
  · replace hR := (if_pos c5).symm.trans hR
    obtain ⟨hpl0, hpl1⟩ := hpl c5
    refine lv_iload_n hx hb d_HaulFlows_list_8 rfl (lv_at hl 1 rfl) ?_
    refine lv_bipush (v := nI 12) hx hb d_HaulFlows_list_9 (by decide) ?_
    obtain ⟨y11, hy11, hR⟩ := hw_bind hR
    have hM := c_HaulFlows_isBelow l dC dI cI cJ cZ H.size x1 (nI 12)
    rw [hy11] at hM
    refine hw_callSi (As := [.int x1, .int (nI 12)]) (rest := []) (wr := w_H cI cJ cZ aH VH0 aS aP aQ aT ++ w_S cI cJ cZ aS VS0 VS1 VS2 NS0 NS1 NS2 LS0 LS1 LS2 LS3 LS4 LS5 LS6 LS7 LS8 IS0 aY ++ w_Y cI cJ cZ aY VY0 LY0 LY1 LY2 IY0 ++ w_P cI cJ cZ aP VP0 VP1 VP2 NP0 LP0 LP1 LP2 LP3 LP4 IP0 IP1 aS ++ w_P cI cJ cZ aQ VQ0 VQ1 VQ2 NQ0 LQ0 LQ1 LQ2 LQ3 LQ4 IQ0 IQ1 aS ++ w_T cI cJ cZ aT VT0 NT0 NT1 LT0 IT0 aS) ⟨hx, hb, hml, hown, hG⟩ hM (hw_cwS 2 hG m_220 m_221 m_1 m_222 rfl rfl (by decide +kernel) ⟨Nat.le_of_ble_eq_true rfl, Nat.le_of_ble_eq_true rfl⟩) hK hP hD hS hA [] [0, 1, 2, 3, 4, 5, 6, 7, 8, 9, 10, 11, 12, 13, 14, 15, 16, 17, 18, 19, 20, 21, 22, 23, 24, 25, 26, 27, 28, 29, 30, 31, 32, 33, 34, 35, 36, 37, 38, 39, 40, 41, 42] rfl rfl (by decide) (by decide) (by decide) rfl hl.1 rfl (Nat.le_of_ble_eq_true rfl) d_HaulFlows_list_11 ⟨Nat.le_of_ble_eq_true rfl, Nat.le_of_ble_eq_true rfl⟩ (fun H locs hP hD hS => ?_)
    have hP : va_P (dC, dI) vwCl (w_H cI cJ cZ aH VH0 aS aP aQ aT ++ w_S cI cJ cZ aS VS0 VS1 VS2 NS0 NS1 NS2 LS0 LS1 LS2 LS3 LS4 LS5 LS6 LS7 LS8 IS0 aY ++ w_Y cI cJ cZ aY VY0 LY0 LY1 LY2 IY0 ++ w_P cI cJ cZ aP VP0 VP1 VP2 NP0 LP0 LP1 LP2 LP3 LP4 IP0 IP1 aS ++ w_P cI cJ cZ aQ VQ0 VQ1 VQ2 NQ0 LQ0 LQ1 LQ2 LQ3 LQ4 IQ0 IQ1 aS ++ w_T cI cJ cZ aT VT0 NT0 NT1 LT0 IT0 aS) H := hP
    have hD : va_D A (w_H cI cJ cZ aH VH0 aS aP aQ aT ++ w_S cI cJ cZ aS VS0 VS1 VS2 NS0 NS1 NS2 LS0 LS1 LS2 LS3 LS4 LS5 LS6 LS7 LS8 IS0 aY ++ w_Y cI cJ cZ aY VY0 LY0 LY1 LY2 IY0 ++ w_P cI cJ cZ aP VP0 VP1 VP2 NP0 LP0 LP1 LP2 LP3 LP4 IP0 IP1 aS ++ w_P cI cJ cZ aQ VQ0 VQ1 VQ2 NQ0 LQ0 LQ1 LQ2 LQ3 LQ4 IQ0 IQ1 aS ++ w_T cI cJ cZ aT VT0 NT0 NT1 LT0 IT0 aS) := hD
    have hbl11 := hp_below (x := x1) (n := 12) (by omega)
    rw [hy11] at hbl11
    refine lv_if_eq (tgt := 29) hx hb d_HaulFlows_list_14 (by decide) (fun c14 => ?_) (fun c14 => ?_)
    · replace hR := (if_pos c14).symm.trans hR
      refine lv_iconst (v := (-1)) hx hb d_HaulFlows_list_29 (by decide) ?_
      subst hR
      exact W.iret (v := (-1)) hx hb hr (fun t ht hW => ⟨⟨_, (), rfl, rfl, by rw [ht]; exact hP, va_K.moved hW.alike hK, hD⟩, hS.F ht⟩) hS.2.2 d_HaulFlows_list_30
    · replace hR := (if_neg c14).symm.trans hR
      refine lv_iload_n hx hb d_HaulFlows_list_17 rfl (lv_at hl 2 rfl) ?_
      refine lv_if_lt (tgt := 29) hx hb d_HaulFlows_list_18 (by decide) (fun c18 => ?_) (fun c18 => ?_)
      · replace hR := (if_pos c18).symm.trans hR
        refine lv_iconst (v := (-1)) hx hb d_HaulFlows_list_29 (by decide) ?_
        subst hR
        exact W.iret (v := (-1)) hx hb hr (fun t ht hW => ⟨⟨_, (), rfl, rfl, by rw [ht]; exact hP, va_K.moved hW.alike hK, hD⟩, hS.F ht⟩) hS.2.2 d_HaulFlows_list_30
      · replace hR := (if_neg c18).symm.trans hR
        refine lv_iload_n hx hb d_HaulFlows_list_21 rfl (lv_at hl 3 rfl) ?_
        refine lv_iconst (v := nI 3) hx hb d_HaulFlows_list_22 (by decide) ?_
        obtain ⟨y23, hy23, hR⟩ := hw_bind hR
        have hM := c_HaulFlows_isBelow l dC dI cI cJ cZ H.size x3 (nI 3)
        rw [hy23] at hM
        refine hw_callSi (As := [.int x3, .int (nI 3)]) (rest := []) (wr := w_H cI cJ cZ aH VH0 aS aP aQ aT ++ w_S cI cJ cZ aS VS0 VS1 VS2 NS0 NS1 NS2 LS0 LS1 LS2 LS3 LS4 LS5 LS6 LS7 LS8 IS0 aY ++ w_Y cI cJ cZ aY VY0 LY0 LY1 LY2 IY0 ++ w_P cI cJ cZ aP VP0 VP1 VP2 NP0 LP0 LP1 LP2 LP3 LP4 IP0 IP1 aS ++ w_P cI cJ cZ aQ VQ0 VQ1 VQ2 NQ0 LQ0 LQ1 LQ2 LQ3 LQ4 IQ0 IQ1 aS ++ w_T cI cJ cZ aT VT0 NT0 NT1 LT0 IT0 aS) ⟨hx, hb, hml, hown, hG⟩ hM (hw_cwS 2 hG m_220 m_221 m_1 m_222 rfl rfl (by decide +kernel) ⟨Nat.le_of_ble_eq_true rfl, Nat.le_of_ble_eq_true rfl⟩) hK hP hD hS hA [] [0, 1, 2, 3, 4, 5, 6, 7, 8, 9, 10, 11, 12, 13, 14, 15, 16, 17, 18, 19, 20, 21, 22, 23, 24, 25, 26, 27, 28, 29, 30, 31, 32, 33, 34, 35, 36, 37, 38, 39, 40, 41, 42] rfl rfl (by decide) (by decide) (by decide) rfl hl.1 rfl (Nat.le_of_ble_eq_true rfl) d_HaulFlows_list_23 ⟨Nat.le_of_ble_eq_true rfl, Nat.le_of_ble_eq_true rfl⟩ (fun H locs hP hD hS => ?_)
        have hP : va_P (dC, dI) vwCl (w_H cI cJ cZ aH VH0 aS aP aQ aT ++ w_S cI cJ cZ aS VS0 VS1 VS2 NS0 NS1 NS2 LS0 LS1 LS2 LS3 LS4 LS5 LS6 LS7 LS8 IS0 aY ++ w_Y cI cJ cZ aY VY0 LY0 LY1 LY2 IY0 ++ w_P cI cJ cZ aP VP0 VP1 VP2 NP0 LP0 LP1 LP2 LP3 LP4 IP0 IP1 aS ++ w_P cI cJ cZ aQ VQ0 VQ1 VQ2 NQ0 LQ0 LQ1 LQ2 LQ3 LQ4 IQ0 IQ1 aS ++ w_T cI cJ cZ aT VT0 NT0 NT1 LT0 IT0 aS) H := hP
        have hD : va_D A (w_H cI cJ cZ aH VH0 aS aP aQ aT ++ w_S cI cJ cZ aS VS0 VS1 VS2 NS0 NS1 NS2 LS0 LS1 LS2 LS3 LS4 LS5 LS6 LS7 LS8 IS0 aY ++ w_Y cI cJ cZ aY VY0 LY0 LY1 LY2 IY0 ++ w_P cI cJ cZ aP VP0 VP1 VP2 NP0 LP0 LP1 LP2 LP3 LP4 IP0 IP1 aS ++ w_P cI cJ cZ aQ VQ0 VQ1 VQ2 NQ0 LQ0 LQ1 LQ2 LQ3 LQ4 IQ0 IQ1 aS ++ w_T cI cJ cZ aT VT0 NT0 NT1 LT0 IT0 aS) := hD
        have hbl23 := hp_below (x := x3) (n := 3) (by omega)
        rw [hy23] at hbl23
        refine lv_if_ne (tgt := 31) hx hb d_HaulFlows_list_26 (by decide) (fun c26 => ?_) (fun c26 => ?_)
        · replace hR := (if_neg c26).symm.trans hR
          refine lv_iload_n hx hb d_HaulFlows_list_31 rfl (lv_at hl 2 rfl) ?_
          refine lv_istore (lv' := [(4, .int x2), (0, .ref (aH 0)), (1, .int x1), (2, .int x2), (3, .int x3)]) hx hb d_HaulFlows_list_32 hl (by decide) rfl (fun ls hl => ?_)
          refine lv_iconst (v := nI 0) hx hb d_HaulFlows_list_34 (by decide) ?_
          refine lv_istore (lv' := [(5, .int (nI 0)), (4, .int x2), (0, .ref (aH 0)), (1, .int x1), (2, .int x2), (3, .int x3)]) hx hb d_HaulFlows_list_35 hl (by decide) rfl (fun ls hl => ?_)
          obtain ⟨k_37, hk_37, hR⟩ : ∃ k, f_HaulFlows_list_x37 = k ∧ f_HaulFlows_list_h37 VS0 VS1 VS2 NS2 x1 LP1 x3 k 13 x2 0 = r0 := ⟨_, rfl, hR⟩
          have X_37 : ∀ (x4_37 : Int32) (x5_37 : Nat) (hi : x5_37 ≤ VS0 + VS1) (H : Heap) (locs : List Loc) (hP : va_P (dC, dI) vwCl (w_H cI cJ cZ aH VH0 aS aP aQ aT ++ w_S cI cJ cZ aS VS0 VS1 VS2 NS0 NS1 NS2 LS0 LS1 LS2 LS3 LS4 LS5 LS6 LS7 LS8 IS0 aY ++ w_Y cI cJ cZ aY VY0 LY0 LY1 LY2 IY0 ++ w_P cI cJ cZ aP VP0 VP1 VP2 NP0 LP0 LP1 LP2 LP3 LP4 IP0 IP1 aS ++ w_P cI cJ cZ aQ VQ0 VQ1 VQ2 NQ0 LQ0 LQ1 LQ2 LQ3 LQ4 IQ0 IQ1 aS ++ w_T cI cJ cZ aT VT0 NT0 NT1 LT0 IT0 aS) H) (hD : va_D A (w_H cI cJ cZ aH VH0 aS aP aQ aT ++ w_S cI cJ cZ aS VS0 VS1 VS2 NS0 NS1 NS2 LS0 LS1 LS2 LS3 LS4 LS5 LS6 LS7 LS8 IS0 aY ++ w_Y cI cJ cZ aY VY0 LY0 LY1 LY2 IY0 ++ w_P cI cJ cZ aP VP0 VP1 VP2 NP0 LP0 LP1 LP2 LP3 LP4 IP0 IP1 aS ++ w_P cI cJ cZ aQ VQ0 VQ1 VQ2 NQ0 LQ0 LQ1 LQ2 LQ3 LQ4 IQ0 IQ1 aS ++ w_T cI cJ cZ aT VT0 NT0 NT1 LT0 IT0 aS)) (hS : va_S A s.heap H locs) (ls : Array Slot) (hl : lv_has ls 7 [(0, .ref (aH 0)), (1, .int x1), (2, .int x2), (3, .int x3), (4, .int x4_37), (5, .int (nI x5_37))]) (hR : k_37 x4_37 x5_37 = r0), W p l e (headSpec u_HaulFlows_list ({ frames := 1, cells := 0, slots := 0, locals := 22 })).room s m ([.ref (aH 0), .int x1, .int x2, .int x3]).toArray below meth c H locs 0 0 (hh_Zi below (dC, dI) vwCl [(cI, .int), (cJ, .long), (cZ, .boolean)] A r0 (w_H cI cJ cZ aH VH0 aS aP aQ aT ++ w_S cI cJ cZ aS VS0 VS1 VS2 NS0 NS1 NS2 LS0 LS1 LS2 LS3 LS4 LS5 LS6 LS7 LS8 IS0 aY ++ w_Y cI cJ cZ aY VY0 LY0 LY1 LY2 IY0 ++ w_P cI cJ cZ aP VP0 VP1 VP2 NP0 LP0 LP1 LP2 LP3 LP4 IP0 IP1 aS ++ w_P cI cJ cZ aQ VQ0 VQ1 VQ2 NQ0 LQ0 LQ1 LQ2 LQ3 LQ4 IQ0 IQ1 aS ++ w_T cI cJ cZ aT VT0 NT0 NT1 LT0 IT0 aS) ([.ref (aH 0), .int x1, .int x2, .int x3]).toArray s) (F0 m 149 ls []) := by
            intro x4_37 x5_37 hi H locs hP hD hS ls hl hR
            rw [← hk_37] at hR
            unfold f_HaulFlows_list_x37 at hR
            refine lv_iconst (v := (-1)) hx hb d_HaulFlows_list_149 (by decide) ?_
            subst hR
            exact W.iret (v := (-1)) hx hb hr (fun t ht hW => ⟨⟨_, (), rfl, rfl, by rw [ht]; exact hP, va_K.moved hW.alike hK, hD⟩, hS.F ht⟩) hS.2.2 d_HaulFlows_list_150
          have L_37 : ∀ (n : Nat) (x4_37 : Int32) (x5_37 : Nat) (hi : x5_37 ≤ VS0 + VS1) (hfu : VS0 + VS1 - x5_37 < n) (H : Heap) (locs : List Loc) (hP : va_P (dC, dI) vwCl (w_H cI cJ cZ aH VH0 aS aP aQ aT ++ w_S cI cJ cZ aS VS0 VS1 VS2 NS0 NS1 NS2 LS0 LS1 LS2 LS3 LS4 LS5 LS6 LS7 LS8 IS0 aY ++ w_Y cI cJ cZ aY VY0 LY0 LY1 LY2 IY0 ++ w_P cI cJ cZ aP VP0 VP1 VP2 NP0 LP0 LP1 LP2 LP3 LP4 IP0 IP1 aS ++ w_P cI cJ cZ aQ VQ0 VQ1 VQ2 NQ0 LQ0 LQ1 LQ2 LQ3 LQ4 IQ0 IQ1 aS ++ w_T cI cJ cZ aT VT0 NT0 NT1 LT0 IT0 aS) H) (hD : va_D A (w_H cI cJ cZ aH VH0 aS aP aQ aT ++ w_S cI cJ cZ aS VS0 VS1 VS2 NS0 NS1 NS2 LS0 LS1 LS2 LS3 LS4 LS5 LS6 LS7 LS8 IS0 aY ++ w_Y cI cJ cZ aY VY0 LY0 LY1 LY2 IY0 ++ w_P cI cJ cZ aP VP0 VP1 VP2 NP0 LP0 LP1 LP2 LP3 LP4 IP0 IP1 aS ++ w_P cI cJ cZ aQ VQ0 VQ1 VQ2 NQ0 LQ0 LQ1 LQ2 LQ3 LQ4 IQ0 IQ1 aS ++ w_T cI cJ cZ aT VT0 NT0 NT1 LT0 IT0 aS)) (hS : va_S A s.heap H locs) (ls : Array Slot) (hl : lv_has ls 7 [(0, .ref (aH 0)), (1, .int x1), (2, .int x2), (3, .int x3), (4, .int x4_37), (5, .int (nI x5_37))]) (hR : f_HaulFlows_list_h37 VS0 VS1 VS2 NS2 x1 LP1 x3 k_37 n x4_37 x5_37 = r0), W p l e (headSpec u_HaulFlows_list ({ frames := 1, cells := 0, slots := 0, locals := 22 })).room s m ([.ref (aH 0), .int x1, .int x2, .int x3]).toArray below meth c H locs 0 0 (hh_Zi below (dC, dI) vwCl [(cI, .int), (cJ, .long), (cZ, .boolean)] A r0 (w_H cI cJ cZ aH VH0 aS aP aQ aT ++ w_S cI cJ cZ aS VS0 VS1 VS2 NS0 NS1 NS2 LS0 LS1 LS2 LS3 LS4 LS5 LS6 LS7 LS8 IS0 aY ++ w_Y cI cJ cZ aY VY0 LY0 LY1 LY2 IY0 ++ w_P cI cJ cZ aP VP0 VP1 VP2 NP0 LP0 LP1 LP2 LP3 LP4 IP0 IP1 aS ++ w_P cI cJ cZ aQ VQ0 VQ1 VQ2 NQ0 LQ0 LQ1 LQ2 LQ3 LQ4 IQ0 IQ1 aS ++ w_T cI cJ cZ aT VT0 NT0 NT1 LT0 IT0 aS) ([.ref (aH 0), .int x1, .int x2, .int x3]).toArray s) (F0 m 37 ls []) := by
            intro n
            induction n with
            | zero =>
              intro x4_37 x5_37 hi hfu H locs hP hD hS ls hl hR
              exact absurd hfu (Nat.not_lt_zero _)
            | succ n ih_37 =>
              intro x4_37 x5_37 hi hfu H locs hP hD hS ls hl hR
              rw [f_HaulFlows_list_h37] at hR
              obtain ⟨rec_37, hrec_37, hR⟩ : ∃ r, r = _ ∧ f_HaulFlows_list_h37B VS0 VS1 VS2 NS2 x1 LP1 x3 k_37 r x4_37 x5_37 = r0 := ⟨_, rfl, hR⟩
              unfold f_HaulFlows_list_h37B at hR
              refine lv_iload hx hb d_HaulFlows_list_37 (lv_at hl 5 rfl) ?_
              refine lv_aload_n hx hb d_HaulFlows_list_39 rfl (lv_at hl 0 rfl) ?_
              refine va_get (D := (dC, dI)) (ci := 4) (v := .ref (aS 0)) (C := R_HaulFlows) (T := T_HaulFlows) (N := 5) hx hb hG in_HaulFlows hown hK hP 0 rfl rfl 0 (by decide) (hG _ m_196) (fun _ h9 => h9) rfl d_HaulFlows_list_40 ?_
              obtain ⟨y43, hy43, hR⟩ := hw_bind hR
              have hM := c_Site_sources l dC dI cI cJ cZ H.size aS VS0 VS1 VS2 NS0 NS1 NS2 LS0 LS1 LS2 LS3 LS4 LS5 LS6 LS7 LS8 IS0 aY VY0 LY0 LY1 LY2 IY0
              rw [hy43] at hM
              refine hw_callVi (As := []) (rest := [.int (nI x5_37)]) (wr := w_H cI cJ cZ aH VH0 aS aP aQ aT ++ w_P cI cJ cZ aP VP0 VP1 VP2 NP0 LP0 LP1 LP2 LP3 LP4 IP0 IP1 aS ++ w_P cI cJ cZ aQ VQ0 VQ1 VQ2 NQ0 LQ0 LQ1 LQ2 LQ3 LQ4 IQ0 IQ1 aS ++ w_T cI cJ cZ aT VT0 NT0 NT1 LT0 IT0 aS) ⟨hx, hb, hml, hown, hG⟩ hM (hw_cwV 0 hG m_291 m_292 m_293 m_2 m_294 rfl rfl (by decide +kernel) ⟨Nat.le_of_ble_eq_true rfl, Nat.le_of_ble_eq_true rfl⟩) hK hP hD hS hA [1, 2, 3, 4, 5, 6, 7, 8, 9, 10, 11, 12, 13, 14, 15, 16, 17, 18, 19] [0, 20, 21, 22, 23, 24, 25, 26, 27, 28, 29, 30, 31, 32, 33, 34, 35, 36, 37, 38, 39, 40, 41, 42] rfl rfl (by decide) (by decide) (by decide) (hw_recv hK hP 1 rfl rfl) rfl hl.1 rfl (Nat.le_of_ble_eq_true rfl) d_HaulFlows_list_43 ⟨Nat.le_of_ble_eq_true rfl, Nat.le_of_ble_eq_true rfl⟩ (fun H locs hP hD hS => ?_)
              have hP : va_P (dC, dI) vwCl (w_H cI cJ cZ aH VH0 aS aP aQ aT ++ w_S cI cJ cZ aS VS0 VS1 VS2 NS0 NS1 NS2 LS0 LS1 LS2 LS3 LS4 LS5 LS6 LS7 LS8 IS0 aY ++ w_Y cI cJ cZ aY VY0 LY0 LY1 LY2 IY0 ++ w_P cI cJ cZ aP VP0 VP1 VP2 NP0 LP0 LP1 LP2 LP3 LP4 IP0 IP1 aS ++ w_P cI cJ cZ aQ VQ0 VQ1 VQ2 NQ0 LQ0 LQ1 LQ2 LQ3 LQ4 IQ0 IQ1 aS ++ w_T cI cJ cZ aT VT0 NT0 NT1 LT0 IT0 aS) H := hP.sub [0, 24, 25, 26, 27, 28, 29, 30, 31, 32, 33, 34, 35, 36, 37, 38, 39, 40, 41, 42, 1, 2, 3, 4, 5, 6, 7, 8, 9, 10, 11, 12, 13, 14, 15, 16, 17, 18, 19, 20, 21, 22, 23] rfl
              have hD : va_D A (w_H cI cJ cZ aH VH0 aS aP aQ aT ++ w_S cI cJ cZ aS VS0 VS1 VS2 NS0 NS1 NS2 LS0 LS1 LS2 LS3 LS4 LS5 LS6 LS7 LS8 IS0 aY ++ w_Y cI cJ cZ aY VY0 LY0 LY1 LY2 IY0 ++ w_P cI cJ cZ aP VP0 VP1 VP2 NP0 LP0 LP1 LP2 LP3 LP4 IP0 IP1 aS ++ w_P cI cJ cZ aQ VQ0 VQ1 VQ2 NQ0 LQ0 LQ1 LQ2 LQ3 LQ4 IQ0 IQ1 aS ++ w_T cI cJ cZ aT VT0 NT0 NT1 LT0 IT0 aS) := hD.sub [0, 24, 25, 26, 27, 28, 29, 30, 31, 32, 33, 34, 35, 36, 37, 38, 39, 40, 41, 42, 1, 2, 3, 4, 5, 6, 7, 8, 9, 10, 11, 12, 13, 14, 15, 16, 17, 18, 19, 20, 21, 22, 23] (by decide) rfl
              have hs43 : y43 = VS0 + VS1 := by rw [← hy43]; rfl
              refine hw_icmp_ge (tgt := 149) hx hb d_HaulFlows_list_46 (by decide) (by omega) (by omega) (fun c46 => ?_) (fun c46 => ?_)
              · replace hR := (if_pos c46).symm.trans hR
                exact X_37 x4_37 x5_37 (by first | assumption | omega | exact hw_upb (by assumption) (by omega)) H locs hP hD hS ls (lv_sub hl [0, 1, 2, 3, 4, 5] rfl) hR
              · replace hR := (if_neg c46).symm.trans hR
                refine lv_iconst (v := nI 0) hx hb d_HaulFlows_list_49 (by decide) ?_
                refine lv_istore (lv' := [(6, .int (nI 0)), (0, .ref (aH 0)), (1, .int x1), (2, .int x2), (3, .int x3), (4, .int x4_37), (5, .int (nI x5_37))]) hx hb d_HaulFlows_list_50 hl (by decide) rfl (fun ls hl => ?_)
                obtain ⟨k_52, hk_52, hR⟩ : ∃ k, (f_HaulFlows_list_x52 rec_37 x5_37) = k ∧ f_HaulFlows_list_h52 VS2 NS2 x1 LP1 x5_37 x3 k 9 x4_37 0 = r0 := ⟨_, rfl, hR⟩
                have X_52 : ∀ (x4_52 : Int32) (x6_52 : Nat) (hi : x6_52 ≤ VS2) (H : Heap) (locs : List Loc) (hP : va_P (dC, dI) vwCl (w_H cI cJ cZ aH VH0 aS aP aQ aT ++ w_S cI cJ cZ aS VS0 VS1 VS2 NS0 NS1 NS2 LS0 LS1 LS2 LS3 LS4 LS5 LS6 LS7 LS8 IS0 aY ++ w_Y cI cJ cZ aY VY0 LY0 LY1 LY2 IY0 ++ w_P cI cJ cZ aP VP0 VP1 VP2 NP0 LP0 LP1 LP2 LP3 LP4 IP0 IP1 aS ++ w_P cI cJ cZ aQ VQ0 VQ1 VQ2 NQ0 LQ0 LQ1 LQ2 LQ3 LQ4 IQ0 IQ1 aS ++ w_T cI cJ cZ aT VT0 NT0 NT1 LT0 IT0 aS) H) (hD : va_D A (w_H cI cJ cZ aH VH0 aS aP aQ aT ++ w_S cI cJ cZ aS VS0 VS1 VS2 NS0 NS1 NS2 LS0 LS1 LS2 LS3 LS4 LS5 LS6 LS7 LS8 IS0 aY ++ w_Y cI cJ cZ aY VY0 LY0 LY1 LY2 IY0 ++ w_P cI cJ cZ aP VP0 VP1 VP2 NP0 LP0 LP1 LP2 LP3 LP4 IP0 IP1 aS ++ w_P cI cJ cZ aQ VQ0 VQ1 VQ2 NQ0 LQ0 LQ1 LQ2 LQ3 LQ4 IQ0 IQ1 aS ++ w_T cI cJ cZ aT VT0 NT0 NT1 LT0 IT0 aS)) (hS : va_S A s.heap H locs) (ls : Array Slot) (hl : lv_has ls 7 [(0, .ref (aH 0)), (1, .int x1), (2, .int x2), (3, .int x3), (4, .int x4_52), (5, .int (nI x5_37)), (6, .int (nI x6_52))]) (hR : k_52 x4_52 x6_52 = r0), W p l e (headSpec u_HaulFlows_list ({ frames := 1, cells := 0, slots := 0, locals := 22 })).room s m ([.ref (aH 0), .int x1, .int x2, .int x3]).toArray below meth c H locs 0 0 (hh_Zi below (dC, dI) vwCl [(cI, .int), (cJ, .long), (cZ, .boolean)] A r0 (w_H cI cJ cZ aH VH0 aS aP aQ aT ++ w_S cI cJ cZ aS VS0 VS1 VS2 NS0 NS1 NS2 LS0 LS1 LS2 LS3 LS4 LS5 LS6 LS7 LS8 IS0 aY ++ w_Y cI cJ cZ aY VY0 LY0 LY1 LY2 IY0 ++ w_P cI cJ cZ aP VP0 VP1 VP2 NP0 LP0 LP1 LP2 LP3 LP4 IP0 IP1 aS ++ w_P cI cJ cZ aQ VQ0 VQ1 VQ2 NQ0 LQ0 LQ1 LQ2 LQ3 LQ4 IQ0 IQ1 aS ++ w_T cI cJ cZ aT VT0 NT0 NT1 LT0 IT0 aS) ([.ref (aH 0), .int x1, .int x2, .int x3]).toArray s) (F0 m 143 ls []) := by
                  intro x4_52 x6_52 hi H locs hP hD hS ls hl hR
                  rw [← hk_52] at hR
                  unfold f_HaulFlows_list_x52 at hR
                  refine lv_iinc (v := nI (x5_37 + 1)) (lv' := [(5, .int (nI (x5_37 + 1))), (0, .ref (aH 0)), (1, .int x1), (2, .int x2), (3, .int x3), (4, .int x4_52), (6, .int (nI x6_52))]) hx hb d_HaulFlows_list_143 hl (k := 5) rfl (hw_inc _ 1) (by decide) rfl (fun ls hl => ?_)
                  refine lv_goto (tgt := 37) hx hb d_HaulFlows_list_146 (by decide) ?_
                  rw [hrec_37] at hR
                  exact ih_37 x4_52 (x5_37 + 1) (by first | assumption | omega | exact hw_upb (by assumption) (by omega)) (by omega) H locs hP hD hS ls (lv_sub hl [1, 2, 3, 4, 5, 0] rfl) hR
                have L_52 : ∀ (n : Nat) (x4_52 : Int32) (x6_52 : Nat) (hi : x6_52 ≤ VS2) (hfu : VS2 - x6_52 < n) (H : Heap) (locs : List Loc) (hP : va_P (dC, dI) vwCl (w_H cI cJ cZ aH VH0 aS aP aQ aT ++ w_S cI cJ cZ aS VS0 VS1 VS2 NS0 NS1 NS2 LS0 LS1 LS2 LS3 LS4 LS5 LS6 LS7 LS8 IS0 aY ++ w_Y cI cJ cZ aY VY0 LY0 LY1 LY2 IY0 ++ w_P cI cJ cZ aP VP0 VP1 VP2 NP0 LP0 LP1 LP2 LP3 LP4 IP0 IP1 aS ++ w_P cI cJ cZ aQ VQ0 VQ1 VQ2 NQ0 LQ0 LQ1 LQ2 LQ3 LQ4 IQ0 IQ1 aS ++ w_T cI cJ cZ aT VT0 NT0 NT1 LT0 IT0 aS) H) (hD : va_D A (w_H cI cJ cZ aH VH0 aS aP aQ aT ++ w_S cI cJ cZ aS VS0 VS1 VS2 NS0 NS1 NS2 LS0 LS1 LS2 LS3 LS4 LS5 LS6 LS7 LS8 IS0 aY ++ w_Y cI cJ cZ aY VY0 LY0 LY1 LY2 IY0 ++ w_P cI cJ cZ aP VP0 VP1 VP2 NP0 LP0 LP1 LP2 LP3 LP4 IP0 IP1 aS ++ w_P cI cJ cZ aQ VQ0 VQ1 VQ2 NQ0 LQ0 LQ1 LQ2 LQ3 LQ4 IQ0 IQ1 aS ++ w_T cI cJ cZ aT VT0 NT0 NT1 LT0 IT0 aS)) (hS : va_S A s.heap H locs) (ls : Array Slot) (hl : lv_has ls 7 [(0, .ref (aH 0)), (1, .int x1), (2, .int x2), (3, .int x3), (4, .int x4_52), (5, .int (nI x5_37)), (6, .int (nI x6_52))]) (hR : f_HaulFlows_list_h52 VS2 NS2 x1 LP1 x5_37 x3 k_52 n x4_52 x6_52 = r0), W p l e (headSpec u_HaulFlows_list ({ frames := 1, cells := 0, slots := 0, locals := 22 })).room s m ([.ref (aH 0), .int x1, .int x2, .int x3]).toArray below meth c H locs 0 0 (hh_Zi below (dC, dI) vwCl [(cI, .int), (cJ, .long), (cZ, .boolean)] A r0 (w_H cI cJ cZ aH VH0 aS aP aQ aT ++ w_S cI cJ cZ aS VS0 VS1 VS2 NS0 NS1 NS2 LS0 LS1 LS2 LS3 LS4 LS5 LS6 LS7 LS8 IS0 aY ++ w_Y cI cJ cZ aY VY0 LY0 LY1 LY2 IY0 ++ w_P cI cJ cZ aP VP0 VP1 VP2 NP0 LP0 LP1 LP2 LP3 LP4 IP0 IP1 aS ++ w_P cI cJ cZ aQ VQ0 VQ1 VQ2 NQ0 LQ0 LQ1 LQ2 LQ3 LQ4 IQ0 IQ1 aS ++ w_T cI cJ cZ aT VT0 NT0 NT1 LT0 IT0 aS) ([.ref (aH 0), .int x1, .int x2, .int x3]).toArray s) (F0 m 52 ls []) := by
                  intro n
                  induction n with
                  | zero =>
                    intro x4_52 x6_52 hi hfu H locs hP hD hS ls hl hR
                    exact absurd hfu (Nat.not_lt_zero _)
                  | succ n ih_52 =>
                    intro x4_52 x6_52 hi hfu H locs hP hD hS ls hl hR
                    rw [f_HaulFlows_list_h52] at hR
                    obtain ⟨rec_52, hrec_52, hR⟩ : ∃ r, r = _ ∧ f_HaulFlows_list_h52B VS2 NS2 x1 LP1 x5_37 x3 k_52 r x4_52 x6_52 = r0 := ⟨_, rfl, hR⟩
                    unfold f_HaulFlows_list_h52B at hR
                    refine lv_iload hx hb d_HaulFlows_list_52 (lv_at hl 6 rfl) ?_
                    refine lv_aload_n hx hb d_HaulFlows_list_54 rfl (lv_at hl 0 rfl) ?_
                    refine va_get (D := (dC, dI)) (ci := 4) (v := .ref (aS 0)) (C := R_HaulFlows) (T := T_HaulFlows) (N := 5) hx hb hG in_HaulFlows hown hK hP 0 rfl rfl 0 (by decide) (hG _ m_196) (fun _ h9 => h9) rfl d_HaulFlows_list_55 ?_
                    refine va_get (D := (dC, dI)) (ci := 2) (v := .int (nI VS2)) (C := R_Site) (T := T_Site) (N := 17) hx hb hG in_Site hown hK hP 1 rfl rfl 2 (by decide) (hG _ m_62) (fun _ h9 => h9) rfl d_HaulFlows_list_58 ?_
                    refine hw_icmp_ge (tgt := 143) hx hb d_HaulFlows_list_61 (by decide) (by omega) (by omega) (fun c61 => ?_) (fun c61 => ?_)
                    · replace hR := (if_pos c61).symm.trans hR
                      exact X_52 x4_52 x6_52 (by first | assumption | omega | exact hw_upb (by assumption) (by omega)) H locs hP hD hS ls (lv_sub hl [0, 1, 2, 3, 4, 5, 6] rfl) hR
                    · replace hR := (if_neg c61).symm.trans hR
                      refine lv_aload_n hx hb d_HaulFlows_list_64 rfl (lv_at hl 0 rfl) ?_
                      refine va_get (D := (dC, dI)) (ci := 4) (v := .ref (aS 0)) (C := R_HaulFlows) (T := T_HaulFlows) (N := 5) hx hb hG in_HaulFlows hown hK hP 0 rfl rfl 0 (by decide) (hG _ m_196) (fun _ h9 => h9) rfl d_HaulFlows_list_65 ?_
                      refine va_get (D := (dC, dI)) (ci := 2) (v := .ref (aS 9)) (C := R_Site) (T := T_Site) (N := 17) hx hb hG in_Site hown hK hP 1 rfl rfl 12 (by decide) (hG _ m_81) (fun _ h9 => h9) rfl d_HaulFlows_list_68 ?_
                      refine lv_iload hx hb d_HaulFlows_list_71 (lv_at hl 6 rfl) ?_
                      refine hw_nald (g := NS2) hx hb hK hP 10 0 rfl rfl (by decide) (by omega) d_HaulFlows_list_73 ?_
                      have hb73 := hfw x6_52
                      refine lv_iload_n hx hb d_HaulFlows_list_74 rfl (lv_at hl 1 rfl) ?_
                      refine lv_icmp_ne (tgt := 137) hx hb d_HaulFlows_list_75 (by decide) (fun c75 => ?_) (fun c75 => ?_)
                      · replace hR := (if_neg c75).symm.trans hR
                        refine lv_iinc (v := nI (x6_52 + 1)) (lv' := [(6, .int (nI (x6_52 + 1))), (0, .ref (aH 0)), (1, .int x1), (2, .int x2), (3, .int x3), (4, .int x4_52), (5, .int (nI x5_37))]) hx hb d_HaulFlows_list_137 hl (k := 6) rfl (hw_inc _ 1) (by decide) rfl (fun ls hl => ?_)
                        refine lv_goto (tgt := 52) hx hb d_HaulFlows_list_140 (by decide) ?_
                        rw [hrec_52] at hR
                        exact ih_52 x4_52 (x6_52 + 1) (by first | assumption | omega | exact hw_upb (by assumption) (by omega)) (by omega) H locs hP hD hS ls (lv_sub hl [1, 2, 3, 4, 5, 6, 0] rfl) hR
                      · replace hR := (if_pos c75).symm.trans hR
                        refine lv_aload_n hx hb d_HaulFlows_list_78 rfl (lv_at hl 0 rfl) ?_
                        refine va_get (D := (dC, dI)) (ci := 4) (v := .ref (aP 0)) (C := R_HaulFlows) (T := T_HaulFlows) (N := 5) hx hb hG in_HaulFlows hown hK hP 0 rfl rfl 1 (by decide) (hG _ m_197) (fun _ h9 => h9) rfl d_HaulFlows_list_79 ?_
                        refine lv_iload hx hb d_HaulFlows_list_82 (lv_at hl 5 rfl) ?_
                        refine lv_iload hx hb d_HaulFlows_list_84 (lv_at hl 6 rfl) ?_
                        obtain ⟨y86, hy86, hR⟩ := hw_bind hR
                        have hM := c_Plan_amount l dC dI cI cJ cZ H.size aP VP0 VP1 VP2 NP0 LP0 LP1 LP2 LP3 LP4 IP0 IP1 aS VS0 VS1 VS2 NS0 NS1 NS2 LS0 LS1 LS2 LS3 LS4 LS5 LS6 LS7 LS8 IS0 aY VY0 LY0 LY1 LY2 IY0 x5_37 x6_52 (by first | assumption | omega) (by first | assumption | omega)
                        rw [hy86] at hM
                        refine hw_callVl (As := [.int (nI x5_37), .int (nI x6_52)]) (rest := []) (wr := w_H cI cJ cZ aH VH0 aS aP aQ aT ++ w_P cI cJ cZ aQ VQ0 VQ1 VQ2 NQ0 LQ0 LQ1 LQ2 LQ3 LQ4 IQ0 IQ1 aS ++ w_T cI cJ cZ aT VT0 NT0 NT1 LT0 IT0 aS) ⟨hx, hb, hml, hown, hG⟩ hM (hw_cwV 2 hG m_296 m_297 m_298 m_5 m_299 rfl rfl (by decide +kernel) ⟨Nat.le_of_ble_eq_true rfl, Nat.le_of_ble_eq_true rfl⟩) hK hP hD hS hA [20, 21, 22, 23, 24, 25, 26, 27, 28, 1, 2, 3, 4, 5, 6, 7, 8, 9, 10, 11, 12, 13, 14, 15, 16, 17, 18, 19] [0, 29, 30, 31, 32, 33, 34, 35, 36, 37, 38, 39, 40, 41, 42] rfl rfl (by decide) (by decide) (by decide) (hw_recv hK hP 20 rfl rfl) rfl hl.1 rfl (Nat.le_of_ble_eq_true rfl) d_HaulFlows_list_86 ⟨Nat.le_of_ble_eq_true rfl, Nat.le_of_ble_eq_true rfl⟩ (fun H locs hP hD hS => ?_)
                        have hP : va_P (dC, dI) vwCl (w_H cI cJ cZ aH VH0 aS aP aQ aT ++ w_S cI cJ cZ aS VS0 VS1 VS2 NS0 NS1 NS2 LS0 LS1 LS2 LS3 LS4 LS5 LS6 LS7 LS8 IS0 aY ++ w_Y cI cJ cZ aY VY0 LY0 LY1 LY2 IY0 ++ w_P cI cJ cZ aP VP0 VP1 VP2 NP0 LP0 LP1 LP2 LP3 LP4 IP0 IP1 aS ++ w_P cI cJ cZ aQ VQ0 VQ1 VQ2 NQ0 LQ0 LQ1 LQ2 LQ3 LQ4 IQ0 IQ1 aS ++ w_T cI cJ cZ aT VT0 NT0 NT1 LT0 IT0 aS) H := hP.sub [0, 24, 25, 26, 27, 28, 29, 30, 31, 32, 33, 34, 35, 36, 37, 38, 39, 40, 41, 42, 15, 16, 17, 18, 19, 20, 21, 22, 23, 1, 2, 3, 4, 5, 6, 7, 8, 9, 10, 11, 12, 13, 14] rfl
                        have hD : va_D A (w_H cI cJ cZ aH VH0 aS aP aQ aT ++ w_S cI cJ cZ aS VS0 VS1 VS2 NS0 NS1 NS2 LS0 LS1 LS2 LS3 LS4 LS5 LS6 LS7 LS8 IS0 aY ++ w_Y cI cJ cZ aY VY0 LY0 LY1 LY2 IY0 ++ w_P cI cJ cZ aP VP0 VP1 VP2 NP0 LP0 LP1 LP2 LP3 LP4 IP0 IP1 aS ++ w_P cI cJ cZ aQ VQ0 VQ1 VQ2 NQ0 LQ0 LQ1 LQ2 LQ3 LQ4 IQ0 IQ1 aS ++ w_T cI cJ cZ aT VT0 NT0 NT1 LT0 IT0 aS) := hD.sub [0, 24, 25, 26, 27, 28, 29, 30, 31, 32, 33, 34, 35, 36, 37, 38, 39, 40, 41, 42, 15, 16, 17, 18, 19, 20, 21, 22, 23, 1, 2, 3, 4, 5, 6, 7, 8, 9, 10, 11, 12, 13, 14] (by decide) rfl
                        refine lv_lconst (v := 0) hx hb d_HaulFlows_list_89 (by decide) ?_
                        refine hw_lcmp_ne (tgt := 97) hx hb d_HaulFlows_list_90 d_HaulFlows_list_91 (by decide) (fun c90 => ?_) (fun c90 => ?_)
                        · replace hR := (if_neg c90).symm.trans hR
                          refine lv_iload hx hb d_HaulFlows_list_97 (lv_at hl 4 rfl) ?_
                          refine lv_if_ne (tgt := 134) hx hb d_HaulFlows_list_99 (by decide) (fun c99 => ?_) (fun c99 => ?_)
                          · replace hR := (if_neg c99).symm.trans hR
                            refine lv_iinc (v := x4_52 + (-1)) (lv' := [(4, .int (x4_52 + (-1))), (0, .ref (aH 0)), (1, .int x1), (2, .int x2), (3, .int x3), (5, .int (nI x5_37)), (6, .int (nI x6_52))]) hx hb d_HaulFlows_list_134 hl (k := 4) rfl rfl (by decide) rfl (fun ls hl => ?_)
                            refine lv_iinc (v := nI (x6_52 + 1)) (lv' := [(6, .int (nI (x6_52 + 1))), (4, .int (x4_52 + (-1))), (0, .ref (aH 0)), (1, .int x1), (2, .int x2), (3, .int x3), (5, .int (nI x5_37))]) hx hb d_HaulFlows_list_137 hl (k := 6) rfl (hw_inc _ 1) (by decide) rfl (fun ls hl => ?_)
                            refine lv_goto (tgt := 52) hx hb d_HaulFlows_list_140 (by decide) ?_
                            rw [hrec_52] at hR
                            exact ih_52 (x4_52 + (-1)) (x6_52 + 1) (by first | assumption | omega | exact hw_upb (by assumption) (by omega)) (by omega) H locs hP hD hS ls (lv_sub hl [2, 3, 4, 5, 1, 6, 0] rfl) hR
                          · replace hR := (if_pos c99).symm.trans hR
                            refine lv_iload_n hx hb d_HaulFlows_list_102 rfl (lv_at hl 3 rfl) ?_
                            refine lv_if_ne (tgt := 111) hx hb d_HaulFlows_list_103 (by decide) (fun c103 => ?_) (fun c103 => ?_)
                            · replace hR := (if_neg c103).symm.trans hR
                              refine lv_iload_n hx hb d_HaulFlows_list_111 rfl (lv_at hl 3 rfl) ?_
                              refine lv_iconst (v := nI 1) hx hb d_HaulFlows_list_112 (by decide) ?_
                              refine lv_icmp_ne (tgt := 121) hx hb d_HaulFlows_list_113 (by decide) (fun c113 => ?_) (fun c113 => ?_)
                              · replace hR := (if_neg c113).symm.trans hR
                                refine lv_aload_n hx hb d_HaulFlows_list_121 rfl (lv_at hl 0 rfl) ?_
                                refine va_get (D := (dC, dI)) (ci := 4) (v := .ref (aP 0)) (C := R_HaulFlows) (T := T_HaulFlows) (N := 5) hx hb hG in_HaulFlows hown hK hP 0 rfl rfl 1 (by decide) (hG _ m_197) (fun _ h9 => h9) rfl d_HaulFlows_list_122 ?_
                                refine lv_iload hx hb d_HaulFlows_list_125 (lv_at hl 5 rfl) ?_
                                refine lv_iload hx hb d_HaulFlows_list_127 (lv_at hl 6 rfl) ?_
                                obtain ⟨y129, hy129, hR⟩ := hw_bind hR
                                have hM := c_Plan_amount l dC dI cI cJ cZ H.size aP VP0 VP1 VP2 NP0 LP0 LP1 LP2 LP3 LP4 IP0 IP1 aS VS0 VS1 VS2 NS0 NS1 NS2 LS0 LS1 LS2 LS3 LS4 LS5 LS6 LS7 LS8 IS0 aY VY0 LY0 LY1 LY2 IY0 x5_37 x6_52 (by first | assumption | omega) (by first | assumption | omega)
                                rw [hy129] at hM
                                refine hw_callVl (As := [.int (nI x5_37), .int (nI x6_52)]) (rest := []) (wr := w_H cI cJ cZ aH VH0 aS aP aQ aT ++ w_P cI cJ cZ aQ VQ0 VQ1 VQ2 NQ0 LQ0 LQ1 LQ2 LQ3 LQ4 IQ0 IQ1 aS ++ w_T cI cJ cZ aT VT0 NT0 NT1 LT0 IT0 aS) ⟨hx, hb, hml, hown, hG⟩ hM (hw_cwV 2 hG m_296 m_297 m_298 m_5 m_299 rfl rfl (by decide +kernel) ⟨Nat.le_of_ble_eq_true rfl, Nat.le_of_ble_eq_true rfl⟩) hK hP hD hS hA [20, 21, 22, 23, 24, 25, 26, 27, 28, 1, 2, 3, 4, 5, 6, 7, 8, 9, 10, 11, 12, 13, 14, 15, 16, 17, 18, 19] [0, 29, 30, 31, 32, 33, 34, 35, 36, 37, 38, 39, 40, 41, 42] rfl rfl (by decide) (by decide) (by decide) (hw_recv hK hP 20 rfl rfl) rfl hl.1 rfl (Nat.le_of_ble_eq_true rfl) d_HaulFlows_list_129 ⟨Nat.le_of_ble_eq_true rfl, Nat.le_of_ble_eq_true rfl⟩ (fun H locs hP hD hS => ?_)
                                have hP : va_P (dC, dI) vwCl (w_H cI cJ cZ aH VH0 aS aP aQ aT ++ w_S cI cJ cZ aS VS0 VS1 VS2 NS0 NS1 NS2 LS0 LS1 LS2 LS3 LS4 LS5 LS6 LS7 LS8 IS0 aY ++ w_Y cI cJ cZ aY VY0 LY0 LY1 LY2 IY0 ++ w_P cI cJ cZ aP VP0 VP1 VP2 NP0 LP0 LP1 LP2 LP3 LP4 IP0 IP1 aS ++ w_P cI cJ cZ aQ VQ0 VQ1 VQ2 NQ0 LQ0 LQ1 LQ2 LQ3 LQ4 IQ0 IQ1 aS ++ w_T cI cJ cZ aT VT0 NT0 NT1 LT0 IT0 aS) H := hP.sub [0, 24, 25, 26, 27, 28, 29, 30, 31, 32, 33, 34, 35, 36, 37, 38, 39, 40, 41, 42, 15, 16, 17, 18, 19, 20, 21, 22, 23, 1, 2, 3, 4, 5, 6, 7, 8, 9, 10, 11, 12, 13, 14] rfl
                                have hD : va_D A (w_H cI cJ cZ aH VH0 aS aP aQ aT ++ w_S cI cJ cZ aS VS0 VS1 VS2 NS0 NS1 NS2 LS0 LS1 LS2 LS3 LS4 LS5 LS6 LS7 LS8 IS0 aY ++ w_Y cI cJ cZ aY VY0 LY0 LY1 LY2 IY0 ++ w_P cI cJ cZ aP VP0 VP1 VP2 NP0 LP0 LP1 LP2 LP3 LP4 IP0 IP1 aS ++ w_P cI cJ cZ aQ VQ0 VQ1 VQ2 NQ0 LQ0 LQ1 LQ2 LQ3 LQ4 IQ0 IQ1 aS ++ w_T cI cJ cZ aT VT0 NT0 NT1 LT0 IT0 aS) := hD.sub [0, 24, 25, 26, 27, 28, 29, 30, 31, 32, 33, 34, 35, 36, 37, 38, 39, 40, 41, 42, 15, 16, 17, 18, 19, 20, 21, 22, 23, 1, 2, 3, 4, 5, 6, 7, 8, 9, 10, 11, 12, 13, 14] (by decide) rfl
                                refine lv_l2i (v := y129.toInt32) hx hb d_HaulFlows_list_132 rfl ?_
                                subst hR
                                exact W.iret (v := y129.toInt32) hx hb hr (fun t ht hW => ⟨⟨_, (), rfl, rfl, by rw [ht]; exact hP, va_K.moved hW.alike hK, hD⟩, hS.F ht⟩) hS.2.2 d_HaulFlows_list_133
                              · replace hR := (if_pos c113).symm.trans hR
                                refine lv_iload hx hb d_HaulFlows_list_116 (lv_at hl 6 rfl) ?_
                                refine lv_goto (tgt := 133) hx hb d_HaulFlows_list_118 (by decide) ?_
                                subst hR
                                exact W.iret (v := nI x6_52) hx hb hr (fun t ht hW => ⟨⟨_, (), rfl, rfl, by rw [ht]; exact hP, va_K.moved hW.alike hK, hD⟩, hS.F ht⟩) hS.2.2 d_HaulFlows_list_133
                            · replace hR := (if_pos c103).symm.trans hR
                              refine lv_iload hx hb d_HaulFlows_list_106 (lv_at hl 5 rfl) ?_
                              refine lv_goto (tgt := 133) hx hb d_HaulFlows_list_108 (by decide) ?_
                              subst hR
                              exact W.iret (v := nI x5_37) hx hb hr (fun t ht hW => ⟨⟨_, (), rfl, rfl, by rw [ht]; exact hP, va_K.moved hW.alike hK, hD⟩, hS.F ht⟩) hS.2.2 d_HaulFlows_list_133
                        · replace hR := (if_pos c90).symm.trans hR
                          refine lv_goto (tgt := 137) hx hb d_HaulFlows_list_94 (by decide) ?_
                          refine lv_iinc (v := nI (x6_52 + 1)) (lv' := [(6, .int (nI (x6_52 + 1))), (0, .ref (aH 0)), (1, .int x1), (2, .int x2), (3, .int x3), (4, .int x4_52), (5, .int (nI x5_37))]) hx hb d_HaulFlows_list_137 hl (k := 6) rfl (hw_inc _ 1) (by decide) rfl (fun ls hl => ?_)
                          refine lv_goto (tgt := 52) hx hb d_HaulFlows_list_140 (by decide) ?_
                          rw [hrec_52] at hR
                          exact ih_52 x4_52 (x6_52 + 1) (by first | assumption | omega | exact hw_upb (by assumption) (by omega)) (by omega) H locs hP hD hS ls (lv_sub hl [1, 2, 3, 4, 5, 6, 0] rfl) hR
                exact L_52 9 x4_37 0 (by first | assumption | omega | exact hw_upb (by assumption) (by omega)) (by omega) H locs hP hD hS ls (lv_sub hl [1, 2, 3, 4, 5, 6, 0] rfl) hR
          exact L_37 13 x2 0 (by first | assumption | omega | exact hw_upb (by assumption) (by omega)) (by omega) H locs hP hD hS ls (lv_sub hl [2, 3, 4, 5, 1, 0] rfl) hR
        · replace hR := (if_pos c26).symm.trans hR
          refine lv_iconst (v := (-1)) hx hb d_HaulFlows_list_29 (by decide) ?_
          subst hR
          exact W.iret (v := (-1)) hx hb hr (fun t ht hW => ⟨⟨_, (), rfl, rfl, by rw [ht]; exact hP, va_K.moved hW.alike hK, hD⟩, hS.F ht⟩) hS.2.2 d_HaulFlows_list_30
def f_HaulFlows_check_h103B (VP0 : Nat) (VP1 : Nat) (LP1 : Nat → Int64) (NS2 : Nat → Nat) (LS8 : Nat → Int64) (k_103 : (Nat) → Int32) (rec_103 : (Nat) → Int32) (x1_103 : Nat) : Int32 :=
  if 12 ≤ x1_103 then (k_103 x1_103) else (hh_bind (f_Plan_amountIn VP0 VP1 LP1 NS2 x1_103) (fun y114 => if y114 ≤ (LS8 x1_103) then (rec_103 (x1_103 + 1)) else (nI (21 + x1_103))))
def f_HaulFlows_check_h103 (VP0 : Nat) (VP1 : Nat) (LP1 : Nat → Int64) (NS2 : Nat → Nat) (LS8 : Nat → Int64) (k_103 : (Nat) → Int32) : Nat → (Nat) → Int32
  | 0, x1_103 => k_103 x1_103
  | n + 1, x1_103 => f_HaulFlows_check_h103B VP0 VP1 LP1 NS2 LS8 k_103 (fun x1_103 => f_HaulFlows_check_h103 VP0 VP1 LP1 NS2 LS8 k_103 n x1_103) x1_103
def f_HaulFlows_check_x103  (x1_103 : Nat) : Int32 :=
  (nI 0)
def f_HaulFlows_check_h58B (VS2 : Nat) (VP0 : Nat) (LP1 : Nat → Int64) (LS4 : Nat → Int64) (k_58 : (Nat) → Int32) (rec_58 : (Nat) → Int32) (x1_58 : Nat) : Int32 :=
  if VS2 ≤ x1_58 then (k_58 x1_58) else (hh_bind (f_Plan_amountTo VP0 LP1 x1_58) (fun y74 => if y74 = (LS4 x1_58) then (rec_58 (x1_58 + 1)) else (nI (13 + x1_58))))
def f_HaulFlows_check_h58 (VS2 : Nat) (VP0 : Nat) (LP1 : Nat → Int64) (LS4 : Nat → Int64) (k_58 : (Nat) → Int32) : Nat → (Nat) → Int32
  | 0, x1_58 => k_58 x1_58
  | n + 1, x1_58 => f_HaulFlows_check_h58B VS2 VP0 LP1 LS4 k_58 (fun x1_58 => f_HaulFlows_check_h58 VS2 VP0 LP1 LS4 k_58 n x1_58) x1_58
def f_HaulFlows_check_x58 (VP0 : Nat) (VP1 : Nat) (LP1 : Nat → Int64) (NS2 : Nat → Nat) (LS8 : Nat → Int64) (x1_58 : Nat) : Int32 :=
  f_HaulFlows_check_h103 VP0 VP1 LP1 NS2 LS8 f_HaulFlows_check_x103 13 0
def f_HaulFlows_check_h12B (VS0 : Nat) (VS1 : Nat) (VP1 : Nat) (LP1 : Nat → Int64) (NS0 : Nat → Nat) (LS0 : Nat → Int64) (LS6 : Nat → Int64) (LS7 : Nat → Int64) (k_12 : (Nat) → Int32) (rec_12 : (Nat) → Int32) (x1_12 : Nat) : Int32 :=
  hh_bind (f_Site_sources VS0 VS1) (fun y17 => if y17 ≤ x1_12 then (k_12 x1_12) else (hh_bind (f_Plan_amountFrom VP1 LP1 x1_12 (x1_12 + 1)) (fun y31 => hh_bind (f_Site_capacity VS0 NS0 LS0 LS6 LS7 x1_12) (fun y39 => if y31 ≤ y39 then (rec_12 (x1_12 + 1)) else (nI (1 + x1_12))))))
def f_HaulFlows_check_h12 (VS0 : Nat) (VS1 : Nat) (VP1 : Nat) (LP1 : Nat → Int64) (NS0 : Nat → Nat) (LS0 : Nat → Int64) (LS6 : Nat → Int64) (LS7 : Nat → Int64) (k_12 : (Nat) → Int32) : Nat → (Nat) → Int32
  | 0, x1_12 => k_12 x1_12
  | n + 1, x1_12 => f_HaulFlows_check_h12B VS0 VS1 VP1 LP1 NS0 LS0 LS6 LS7 k_12 (fun x1_12 => f_HaulFlows_check_h12 VS0 VS1 VP1 LP1 NS0 LS0 LS6 LS7 k_12 n x1_12) x1_12
def f_HaulFlows_check_x12 (VS2 : Nat) (VP0 : Nat) (LP1 : Nat → Int64) (LS4 : Nat → Int64) (VP1 : Nat) (NS2 : Nat → Nat) (LS8 : Nat → Int64) (x1_12 : Nat) : Int32 :=
  f_HaulFlows_check_h58 VS2 VP0 LP1 LS4 (f_HaulFlows_check_x58 VP0 VP1 LP1 NS2 LS8) 9 0
def f_HaulFlows_check (VH0 : Nat) (VS0 : Nat) (VS1 : Nat) (VS2 : Nat) (NS0 : Nat → Nat) (NS2 : Nat → Nat) (LS0 : Nat → Int64) (LS4 : Nat → Int64) (LS6 : Nat → Int64) (LS7 : Nat → Int64) (LS8 : Nat → Int64) (VP0 : Nat) (VP1 : Nat) (LP1 : Nat → Int64) : Int32 :=
  if VH0 = 1 then (f_HaulFlows_check_h12 VS0 VS1 VP1 LP1 NS0 LS0 LS6 LS7 (f_HaulFlows_check_x12 VS2 VP0 LP1 LS4 VP1 NS2 LS8) 13 0) else ((-1))
set_option maxHeartbeats 4000000 in
set_option maxRecDepth 100000 in
theorem c_HaulFlows_check (l : Launch) (dC : Nat → ClassId) (dI : Nat → Nat → Nat) (cI cJ cZ : ClassId) (sz : Nat) (aH : Nat → Nat) (VH0 : Nat) (aS : Nat → Nat) (VS0 : Nat) (VS1 : Nat) (VS2 : Nat) (NS0 : Nat → Nat) (NS1 : Nat → Nat) (NS2 : Nat → Nat) (LS0 : Nat → Int64) (LS1 : Nat → Int64) (LS2 : Nat → Int64) (LS3 : Nat → Int64) (LS4 : Nat → Int64) (LS5 : Nat → Int64) (LS6 : Nat → Int64) (LS7 : Nat → Int64) (LS8 : Nat → Int64) (IS0 : Nat → Int32) (aY : Nat → Nat) (VY0 : Nat) (LY0 : Nat → Int64) (LY1 : Nat → Int64) (LY2 : Nat → Int64) (IY0 : Nat → Int32) (aP : Nat → Nat) (VP0 : Nat) (VP1 : Nat) (VP2 : Nat) (NP0 : Nat → Nat) (LP0 : Nat → Int64) (LP1 : Nat → Int64) (LP2 : Nat → Int64) (LP3 : Nat → Int64) (LP4 : Nat → Int64) (IP0 : Nat → Int32) (IP1 : Nat → Int32) (aQ : Nat → Nat) (VQ0 : Nat) (VQ1 : Nat) (VQ2 : Nat) (NQ0 : Nat → Nat) (LQ0 : Nat → Int64) (LQ1 : Nat → Int64) (LQ2 : Nat → Int64) (LQ3 : Nat → Int64) (LQ4 : Nat → Int64) (IQ0 : Nat → Int32) (IQ1 : Nat → Int32) (aT : Nat → Nat) (VT0 : Nat) (NT0 : Nat → Nat) (NT1 : Nat → Nat) (LT0 : Nat → Int64) (IT0 : Nat → Int32) (hc8 : VS0 ≤ 8) (hp4 : VS1 ≤ 4) (hf8 : VS2 ≤ 8) (hy6 : VY0 ≤ 6) (hk4 : ∀ i, NS0 i < 4) (hcw : ∀ i, NS1 i < 12) (hfw : ∀ i, NS2 i < 12) (hq : ∀ i, NP0 i < 21) (htq : ∀ i, NT1 i < 34) (hst : VH0 ≤ 2) (hpl : VH0 = 1 → VP0 = VS0 + VS1 ∧ VP1 = VS2) (hsf : VT0 ≤ 8) : hh_Ci l y_HaulFlows_check u_HaulFlows_check ({ frames := 3, cells := 0, slots := 0, locals := 70 }) (dC, dI) vwCl [(cI, .int), (cJ, .long), (cZ, .boolean)] (w_H cI cJ cZ aH VH0 aS aP aQ aT ++ w_S cI cJ cZ aS VS0 VS1 VS2 NS0 NS1 NS2 LS0 LS1 LS2 LS3 LS4 LS5 LS6 LS7 LS8 IS0 aY ++ w_Y cI cJ cZ aY VY0 LY0 LY1 LY2 IY0 ++ w_P cI cJ cZ aP VP0 VP1 VP2 NP0 LP0 LP1 LP2 LP3 LP4 IP0 IP1 aS ++ w_P cI cJ cZ aQ VQ0 VQ1 VQ2 NQ0 LQ0 LQ1 LQ2 LQ3 LQ4 IQ0 IQ1 aS ++ w_T cI cJ cZ aT VT0 NT0 NT1 LT0 IT0 aS) sz [.ref (aH 0)] (f_HaulFlows_check VH0 VS0 VS1 VS2 NS0 NS2 LS0 LS4 LS6 LS7 LS8 VP0 VP1 LP1) (w_H cI cJ cZ aH VH0 aS aP aQ aT ++ w_S cI cJ cZ aS VS0 VS1 VS2 NS0 NS1 NS2 LS0 LS1 LS2 LS3 LS4 LS5 LS6 LS7 LS8 IS0 aY ++ w_Y cI cJ cZ aY VY0 LY0 LY1 LY2 IY0 ++ w_P cI cJ cZ aP VP0 VP1 VP2 NP0 LP0 LP1 LP2 LP3 LP4 IP0 IP1 aS ++ w_P cI cJ cZ aQ VQ0 VQ1 VQ2 NQ0 LQ0 LQ1 LQ2 LQ3 LQ4 IQ0 IQ1 aS ++ w_T cI cJ cZ aT VT0 NT0 NT1 LT0 IT0 aS) 0 0 := by
  unfold hh_Ci
  refine Met.ofW (cc := b_HaulFlows_check) (maxL := 2) (ret := (some .int)) (by decide) rfl ?_
  intro p e s m args below meth c s₁ B hml hv
  obtain ⟨rfl, hsz, hP, hK, hD0⟩ := hv
  have hx := B.exec
  have hb := B.bytes
  have hr := B.returns
  have hts := atoms_spec (ws := u_HaulFlows_check) B.pre
  have hG : ∀ w ∈ wG, w.before ([.ref (aH 0)]).toArray s = true := fun w h => hts w (List.mem_cons_of_mem _ h)
  have hown : s.vm.findClass R_HaulFlows = some m.cls := findClass_of_methodNamed B.named
  have hlocks := B.notSynchronized
  subst hsz
  have hD := hD0.self (sz := s.heap.size)
  generalize hAe : va_A (w_H cI cJ cZ aH VH0 aS aP aQ aT ++ w_S cI cJ cZ aS VS0 VS1 VS2 NS0 NS1 NS2 LS0 LS1 LS2 LS3 LS4 LS5 LS6 LS7 LS8 IS0 aY ++ w_Y cI cJ cZ aY VY0 LY0 LY1 LY2 IY0 ++ w_P cI cJ cZ aP VP0 VP1 VP2 NP0 LP0 LP1 LP2 LP3 LP4 IP0 IP1 aS ++ w_P cI cJ cZ aQ VQ0 VQ1 VQ2 NQ0 LQ0 LQ1 LQ2 LQ3 LQ4 IQ0 IQ1 aS ++ w_T cI cJ cZ aT VT0 NT0 NT1 LT0 IT0 aS) s.heap.size = A at hD ⊢
  have hA : ∀ q : Nat, s.heap.size ≤ q → A q := fun q h => by rw [← hAe]; exact Or.inr h
  have hS : va_S A s.heap s.heap [] := va_S.rf
  have hl := lv_entry ([.ref (aH 0)]) (n := 2) (Nat.le_of_ble_eq_true rfl)
  rw [lg_entry_eq]
  generalize (lg_sl ([.ref (aH 0)]) ++ List.replicate (2 - (lg_sl ([.ref (aH 0)])).length) Slot.unset).toArray = ls at hl ⊢
  have hl : lv_has ls 2 [(0, .ref (aH 0))] := hl
  generalize hR : f_HaulFlows_check VH0 VS0 VS1 VS2 NS0 NS2 LS0 LS4 LS6 LS7 LS8 VP0 VP1 LP1 = r0
  obtain ⟨H, locs, hHe, hle⟩ : ∃ (H : Heap) (locs : List Loc), s.heap = H ∧ [] = locs := ⟨_, _, rfl, rfl⟩
  have hP : va_P (dC, dI) vwCl (w_H cI cJ cZ aH VH0 aS aP aQ aT ++ w_S cI cJ cZ aS VS0 VS1 VS2 NS0 NS1 NS2 LS0 LS1 LS2 LS3 LS4 LS5 LS6 LS7 LS8 IS0 aY ++ w_Y cI cJ cZ aY VY0 LY0 LY1 LY2 IY0 ++ w_P cI cJ cZ aP VP0 VP1 VP2 NP0 LP0 LP1 LP2 LP3 LP4 IP0 IP1 aS ++ w_P cI cJ cZ aQ VQ0 VQ1 VQ2 NQ0 LQ0 LQ1 LQ2 LQ3 LQ4 IQ0 IQ1 aS ++ w_T cI cJ cZ aT VT0 NT0 NT1 LT0 IT0 aS) H := by rw [← hHe]; exact hP
  have hS : va_S A s.heap H locs := by rw [← hHe, ← hle]; exact hS
  refine hw_start hHe hle ?_
  unfold f_HaulFlows_check at hR
  refine lv_aload_n hx hb d_HaulFlows_check_0 rfl (lv_at hl 0 rfl) ?_
  refine va_get (D := (dC, dI)) (ci := 4) (v := .int (nI VH0)) (C := R_HaulFlows) (T := T_HaulFlows) (N := 5) hx hb hG in_HaulFlows hown hK hP 0 rfl rfl 4 (by decide) (hG _ m_200) (fun _ h9 => h9) rfl d_HaulFlows_check_1 ?_
  refine lv_iconst (v := nI 1) hx hb d_HaulFlows_check_4 (by decide) ?_
  refine hw_icmp_eq (tgt := 10) hx hb d_HaulFlows_check_5 (by decide) (by omega) (by omega) (fun c5 => ?_) (fun c5 => ?_)
  · replace hR := (if_pos c5).symm.trans hR
    obtain ⟨hpl0, hpl1⟩ := hpl c5
    refine lv_iconst (v := nI 0) hx hb d_HaulFlows_check_10 (by decide) ?_
    refine lv_istore_n (lv' := [(1, .int (nI 0)), (0, .ref (aH 0))]) hx hb d_HaulFlows_check_11 rfl hl (by decide) rfl (fun ls hl => ?_)
    obtain ⟨k_12, hk_12, hR⟩ : ∃ k, (f_HaulFlows_check_x12 VS2 VP0 LP1 LS4 VP1 NS2 LS8) = k ∧ f_HaulFlows_check_h12 VS0 VS1 VP1 LP1 NS0 LS0 LS6 LS7 k 13 0 = r0 := ⟨_, rfl, hR⟩
    have X_12 : ∀ (x1_12 : Nat) (hi : x1_12 ≤ VS0 + VS1) (H : Heap) (locs : List Loc) (hP : va_P (dC, dI) vwCl (w_H cI cJ cZ aH VH0 aS aP aQ aT ++ w_S cI cJ cZ aS VS0 VS1 VS2 NS0 NS1 NS2 LS0 LS1 LS2 LS3 LS4 LS5 LS6 LS7 LS8 IS0 aY ++ w_Y cI cJ cZ aY VY0 LY0 LY1 LY2 IY0 ++ w_P cI cJ cZ aP VP0 VP1 VP2 NP0 LP0 LP1 LP2 LP3 LP4 IP0 IP1 aS ++ w_P cI cJ cZ aQ VQ0 VQ1 VQ2 NQ0 LQ0 LQ1 LQ2 LQ3 LQ4 IQ0 IQ1 aS ++ w_T cI cJ cZ aT VT0 NT0 NT1 LT0 IT0 aS) H) (hD : va_D A (w_H cI cJ cZ aH VH0 aS aP aQ aT ++ w_S cI cJ cZ aS VS0 VS1 VS2 NS0 NS1 NS2 LS0 LS1 LS2 LS3 LS4 LS5 LS6 LS7 LS8 IS0 aY ++ w_Y cI cJ cZ aY VY0 LY0 LY1 LY2 IY0 ++ w_P cI cJ cZ aP VP0 VP1 VP2 NP0 LP0 LP1 LP2 LP3 LP4 IP0 IP1 aS ++ w_P cI cJ cZ aQ VQ0 VQ1 VQ2 NQ0 LQ0 LQ1 LQ2 LQ3 LQ4 IQ0 IQ1 aS ++ w_T cI cJ cZ aT VT0 NT0 NT1 LT0 IT0 aS)) (hS : va_S A s.heap H locs) (ls : Array Slot) (hl : lv_has ls 2 [(0, .ref (aH 0)), (1, .int (nI x1_12))]) (hR : k_12 x1_12 = r0), W p l e (headSpec u_HaulFlows_check ({ frames := 3, cells := 0, slots := 0, locals := 70 })).room s m ([.ref (aH 0)]).toArray below meth c H locs 0 0 (hh_Zi below (dC, dI) vwCl [(cI, .int), (cJ, .long), (cZ, .boolean)] A r0 (w_H cI cJ cZ aH VH0 aS aP aQ aT ++ w_S cI cJ cZ aS VS0 VS1 VS2 NS0 NS1 NS2 LS0 LS1 LS2 LS3 LS4 LS5 LS6 LS7 LS8 IS0 aY ++ w_Y cI cJ cZ aY VY0 LY0 LY1 LY2 IY0 ++ w_P cI cJ cZ aP VP0 VP1 VP2 NP0 LP0 LP1 LP2 LP3 LP4 IP0 IP1 aS ++ w_P cI cJ cZ aQ VQ0 VQ1 VQ2 NQ0 LQ0 LQ1 LQ2 LQ3 LQ4 IQ0 IQ1 aS ++ w_T cI cJ cZ aT VT0 NT0 NT1 LT0 IT0 aS) ([.ref (aH 0)]).toArray s) (F0 m 56 ls []) := by
      intro x1_12 hi H locs hP hD hS ls hl hR
      rw [← hk_12] at hR
      unfold f_HaulFlows_check_x12 at hR
      refine lv_iconst (v := nI 0) hx hb d_HaulFlows_check_56 (by decide) ?_
      refine lv_istore_n (lv' := [(1, .int (nI 0)), (0, .ref (aH 0))]) hx hb d_HaulFlows_check_57 rfl hl (by decide) rfl (fun ls hl => ?_)
      obtain ⟨k_58, hk_58, hR⟩ : ∃ k, (f_HaulFlows_check_x58 VP0 VP1 LP1 NS2 LS8) = k ∧ f_HaulFlows_check_h58 VS2 VP0 LP1 LS4 k 9 0 = r0 := ⟨_, rfl, hR⟩
      have X_58 : ∀ (x1_58 : Nat) (hi : x1_58 ≤ VS2) (H : Heap) (locs : List Loc) (hP : va_P (dC, dI) vwCl (w_H cI cJ cZ aH VH0 aS aP aQ aT ++ w_S cI cJ cZ aS VS0 VS1 VS2 NS0 NS1 NS2 LS0 LS1 LS2 LS3 LS4 LS5 LS6 LS7 LS8 IS0 aY ++ w_Y cI cJ cZ aY VY0 LY0 LY1 LY2 IY0 ++ w_P cI cJ cZ aP VP0 VP1 VP2 NP0 LP0 LP1 LP2 LP3 LP4 IP0 IP1 aS ++ w_P cI cJ cZ aQ VQ0 VQ1 VQ2 NQ0 LQ0 LQ1 LQ2 LQ3 LQ4 IQ0 IQ1 aS ++ w_T cI cJ cZ aT VT0 NT0 NT1 LT0 IT0 aS) H) (hD : va_D A (w_H cI cJ cZ aH VH0 aS aP aQ aT ++ w_S cI cJ cZ aS VS0 VS1 VS2 NS0 NS1 NS2 LS0 LS1 LS2 LS3 LS4 LS5 LS6 LS7 LS8 IS0 aY ++ w_Y cI cJ cZ aY VY0 LY0 LY1 LY2 IY0 ++ w_P cI cJ cZ aP VP0 VP1 VP2 NP0 LP0 LP1 LP2 LP3 LP4 IP0 IP1 aS ++ w_P cI cJ cZ aQ VQ0 VQ1 VQ2 NQ0 LQ0 LQ1 LQ2 LQ3 LQ4 IQ0 IQ1 aS ++ w_T cI cJ cZ aT VT0 NT0 NT1 LT0 IT0 aS)) (hS : va_S A s.heap H locs) (ls : Array Slot) (hl : lv_has ls 2 [(0, .ref (aH 0)), (1, .int (nI x1_58))]) (hR : k_58 x1_58 = r0), W p l e (headSpec u_HaulFlows_check ({ frames := 3, cells := 0, slots := 0, locals := 70 })).room s m ([.ref (aH 0)]).toArray below meth c H locs 0 0 (hh_Zi below (dC, dI) vwCl [(cI, .int), (cJ, .long), (cZ, .boolean)] A r0 (w_H cI cJ cZ aH VH0 aS aP aQ aT ++ w_S cI cJ cZ aS VS0 VS1 VS2 NS0 NS1 NS2 LS0 LS1 LS2 LS3 LS4 LS5 LS6 LS7 LS8 IS0 aY ++ w_Y cI cJ cZ aY VY0 LY0 LY1 LY2 IY0 ++ w_P cI cJ cZ aP VP0 VP1 VP2 NP0 LP0 LP1 LP2 LP3 LP4 IP0 IP1 aS ++ w_P cI cJ cZ aQ VQ0 VQ1 VQ2 NQ0 LQ0 LQ1 LQ2 LQ3 LQ4 IQ0 IQ1 aS ++ w_T cI cJ cZ aT VT0 NT0 NT1 LT0 IT0 aS) ([.ref (aH 0)]).toArray s) (F0 m 101 ls []) := by
        intro x1_58 hi H locs hP hD hS ls hl hR
        rw [← hk_58] at hR
        unfold f_HaulFlows_check_x58 at hR
        refine lv_iconst (v := nI 0) hx hb d_HaulFlows_check_101 (by decide) ?_
        refine lv_istore_n (lv' := [(1, .int (nI 0)), (0, .ref (aH 0))]) hx hb d_HaulFlows_check_102 rfl hl (by decide) rfl (fun ls hl => ?_)
        obtain ⟨k_103, hk_103, hR⟩ : ∃ k, f_HaulFlows_check_x103 = k ∧ f_HaulFlows_check_h103 VP0 VP1 LP1 NS2 LS8 k 13 0 = r0 := ⟨_, rfl, hR⟩
        have X_103 : ∀ (x1_103 : Nat) (hi : x1_103 ≤ 12) (H : Heap) (locs : List Loc) (hP : va_P (dC, dI) vwCl (w_H cI cJ cZ aH VH0 aS aP aQ aT ++ w_S cI cJ cZ aS VS0 VS1 VS2 NS0 NS1 NS2 LS0 LS1 LS2 LS3 LS4 LS5 LS6 LS7 LS8 IS0 aY ++ w_Y cI cJ cZ aY VY0 LY0 LY1 LY2 IY0 ++ w_P cI cJ cZ aP VP0 VP1 VP2 NP0 LP0 LP1 LP2 LP3 LP4 IP0 IP1 aS ++ w_P cI cJ cZ aQ VQ0 VQ1 VQ2 NQ0 LQ0 LQ1 LQ2 LQ3 LQ4 IQ0 IQ1 aS ++ w_T cI cJ cZ aT VT0 NT0 NT1 LT0 IT0 aS) H) (hD : va_D A (w_H cI cJ cZ aH VH0 aS aP aQ aT ++ w_S cI cJ cZ aS VS0 VS1 VS2 NS0 NS1 NS2 LS0 LS1 LS2 LS3 LS4 LS5 LS6 LS7 LS8 IS0 aY ++ w_Y cI cJ cZ aY VY0 LY0 LY1 LY2 IY0 ++ w_P cI cJ cZ aP VP0 VP1 VP2 NP0 LP0 LP1 LP2 LP3 LP4 IP0 IP1 aS ++ w_P cI cJ cZ aQ VQ0 VQ1 VQ2 NQ0 LQ0 LQ1 LQ2 LQ3 LQ4 IQ0 IQ1 aS ++ w_T cI cJ cZ aT VT0 NT0 NT1 LT0 IT0 aS)) (hS : va_S A s.heap H locs) (ls : Array Slot) (hl : lv_has ls 2 [(0, .ref (aH 0)), (1, .int (nI x1_103))]) (hR : k_103 x1_103 = r0), W p l e (headSpec u_HaulFlows_check ({ frames := 3, cells := 0, slots := 0, locals := 70 })).room s m ([.ref (aH 0)]).toArray below meth c H locs 0 0 (hh_Zi below (dC, dI) vwCl [(cI, .int), (cJ, .long), (cZ, .boolean)] A r0 (w_H cI cJ cZ aH VH0 aS aP aQ aT ++ w_S cI cJ cZ aS VS0 VS1 VS2 NS0 NS1 NS2 LS0 LS1 LS2 LS3 LS4 LS5 LS6 LS7 LS8 IS0 aY ++ w_Y cI cJ cZ aY VY0 LY0 LY1 LY2 IY0 ++ w_P cI cJ cZ aP VP0 VP1 VP2 NP0 LP0 LP1 LP2 LP3 LP4 IP0 IP1 aS ++ w_P cI cJ cZ aQ VQ0 VQ1 VQ2 NQ0 LQ0 LQ1 LQ2 LQ3 LQ4 IQ0 IQ1 aS ++ w_T cI cJ cZ aT VT0 NT0 NT1 LT0 IT0 aS) ([.ref (aH 0)]).toArray s) (F0 m 141 ls []) := by
          intro x1_103 hi H locs hP hD hS ls hl hR
          rw [← hk_103] at hR
          unfold f_HaulFlows_check_x103 at hR
          refine lv_iconst (v := nI 0) hx hb d_HaulFlows_check_141 (by decide) ?_
          subst hR
          exact W.iret (v := nI 0) hx hb hr (fun t ht hW => ⟨⟨_, (), rfl, rfl, by rw [ht]; exact hP, va_K.moved hW.alike hK, hD⟩, hS.F ht⟩) hS.2.2 d_HaulFlows_check_142
        have L_103 : ∀ (n : Nat) (x1_103 : Nat) (hi : x1_103 ≤ 12) (hfu : 12 - x1_103 < n) (H : Heap) (locs : List Loc) (hP : va_P (dC, dI) vwCl (w_H cI cJ cZ aH VH0 aS aP aQ aT ++ w_S cI cJ cZ aS VS0 VS1 VS2 NS0 NS1 NS2 LS0 LS1 LS2 LS3 LS4 LS5 LS6 LS7 LS8 IS0 aY ++ w_Y cI cJ cZ aY VY0 LY0 LY1 LY2 IY0 ++ w_P cI cJ cZ aP VP0 VP1 VP2 NP0 LP0 LP1 LP2 LP3 LP4 IP0 IP1 aS ++ w_P cI cJ cZ aQ VQ0 VQ1 VQ2 NQ0 LQ0 LQ1 LQ2 LQ3 LQ4 IQ0 IQ1 aS ++ w_T cI cJ cZ aT VT0 NT0 NT1 LT0 IT0 aS) H) (hD : va_D A (w_H cI cJ cZ aH VH0 aS aP aQ aT ++ w_S cI cJ cZ aS VS0 VS1 VS2 NS0 NS1 NS2 LS0 LS1 LS2 LS3 LS4 LS5 LS6 LS7 LS8 IS0 aY ++ w_Y cI cJ cZ aY VY0 LY0 LY1 LY2 IY0 ++ w_P cI cJ cZ aP VP0 VP1 VP2 NP0 LP0 LP1 LP2 LP3 LP4 IP0 IP1 aS ++ w_P cI cJ cZ aQ VQ0 VQ1 VQ2 NQ0 LQ0 LQ1 LQ2 LQ3 LQ4 IQ0 IQ1 aS ++ w_T cI cJ cZ aT VT0 NT0 NT1 LT0 IT0 aS)) (hS : va_S A s.heap H locs) (ls : Array Slot) (hl : lv_has ls 2 [(0, .ref (aH 0)), (1, .int (nI x1_103))]) (hR : f_HaulFlows_check_h103 VP0 VP1 LP1 NS2 LS8 k_103 n x1_103 = r0), W p l e (headSpec u_HaulFlows_check ({ frames := 3, cells := 0, slots := 0, locals := 70 })).room s m ([.ref (aH 0)]).toArray below meth c H locs 0 0 (hh_Zi below (dC, dI) vwCl [(cI, .int), (cJ, .long), (cZ, .boolean)] A r0 (w_H cI cJ cZ aH VH0 aS aP aQ aT ++ w_S cI cJ cZ aS VS0 VS1 VS2 NS0 NS1 NS2 LS0 LS1 LS2 LS3 LS4 LS5 LS6 LS7 LS8 IS0 aY ++ w_Y cI cJ cZ aY VY0 LY0 LY1 LY2 IY0 ++ w_P cI cJ cZ aP VP0 VP1 VP2 NP0 LP0 LP1 LP2 LP3 LP4 IP0 IP1 aS ++ w_P cI cJ cZ aQ VQ0 VQ1 VQ2 NQ0 LQ0 LQ1 LQ2 LQ3 LQ4 IQ0 IQ1 aS ++ w_T cI cJ cZ aT VT0 NT0 NT1 LT0 IT0 aS) ([.ref (aH 0)]).toArray s) (F0 m 103 ls []) := by
          intro n
          induction n with
          | zero =>
            intro x1_103 hi hfu H locs hP hD hS ls hl hR
            exact absurd hfu (Nat.not_lt_zero _)
          | succ n ih_103 =>
            intro x1_103 hi hfu H locs hP hD hS ls hl hR
            rw [f_HaulFlows_check_h103] at hR
            obtain ⟨rec_103, hrec_103, hR⟩ : ∃ r, r = _ ∧ f_HaulFlows_check_h103B VP0 VP1 LP1 NS2 LS8 k_103 r x1_103 = r0 := ⟨_, rfl, hR⟩
            unfold f_HaulFlows_check_h103B at hR
            refine lv_iload_n hx hb d_HaulFlows_check_103 rfl (lv_at hl 1 rfl) ?_
            refine lv_bipush (v := nI 12) hx hb d_HaulFlows_check_104 (by decide) ?_
            refine hw_icmp_ge (tgt := 141) hx hb d_HaulFlows_check_106 (by decide) (by omega) (by omega) (fun c106 => ?_) (fun c106 => ?_)
            · replace hR := (if_pos c106).symm.trans hR
              exact X_103 x1_103 (by first | assumption | omega | exact hw_upb (by assumption) (by omega)) H locs hP hD hS ls (lv_sub hl [0, 1] rfl) hR
            · replace hR := (if_neg c106).symm.trans hR
              refine lv_aload_n hx hb d_HaulFlows_check_109 rfl (lv_at hl 0 rfl) ?_
              refine va_get (D := (dC, dI)) (ci := 4) (v := .ref (aP 0)) (C := R_HaulFlows) (T := T_HaulFlows) (N := 5) hx hb hG in_HaulFlows hown hK hP 0 rfl rfl 1 (by decide) (hG _ m_197) (fun _ h9 => h9) rfl d_HaulFlows_check_110 ?_
              refine lv_iload_n hx hb d_HaulFlows_check_113 rfl (lv_at hl 1 rfl) ?_
              obtain ⟨y114, hy114, hR⟩ := hw_bind hR
              have hM := c_Plan_amountIn l dC dI cI cJ cZ H.size aP VP0 VP1 VP2 NP0 LP0 LP1 LP2 LP3 LP4 IP0 IP1 aS VS0 VS1 VS2 NS0 NS1 NS2 LS0 LS1 LS2 LS3 LS4 LS5 LS6 LS7 LS8 IS0 aY VY0 LY0 LY1 LY2 IY0 x1_103 (by first | assumption | omega) (by first | assumption | omega) (by first | assumption | omega) (by first | assumption | omega)
              rw [hy114] at hM
              refine hw_callVl (As := [.int (nI x1_103)]) (rest := []) (wr := w_H cI cJ cZ aH VH0 aS aP aQ aT ++ w_P cI cJ cZ aQ VQ0 VQ1 VQ2 NQ0 LQ0 LQ1 LQ2 LQ3 LQ4 IQ0 IQ1 aS ++ w_T cI cJ cZ aT VT0 NT0 NT1 LT0 IT0 aS) ⟨hx, hb, hml, hown, hG⟩ hM (hw_cwV 1 hG m_456 m_457 m_458 m_5 m_459 rfl rfl (by decide +kernel) ⟨Nat.le_of_ble_eq_true rfl, Nat.le_of_ble_eq_true rfl⟩) hK hP hD hS hA [20, 21, 22, 23, 24, 25, 26, 27, 28, 1, 2, 3, 4, 5, 6, 7, 8, 9, 10, 11, 12, 13, 14, 15, 16, 17, 18, 19] [0, 29, 30, 31, 32, 33, 34, 35, 36, 37, 38, 39, 40, 41, 42] rfl rfl (by decide) (by decide) (by decide) (hw_recv hK hP 20 rfl rfl) rfl hl.1 rfl (Nat.le_of_ble_eq_true rfl) d_HaulFlows_check_114 ⟨Nat.le_of_ble_eq_true rfl, Nat.le_of_ble_eq_true rfl⟩ (fun H locs hP hD hS => ?_)
              have hP : va_P (dC, dI) vwCl (w_H cI cJ cZ aH VH0 aS aP aQ aT ++ w_S cI cJ cZ aS VS0 VS1 VS2 NS0 NS1 NS2 LS0 LS1 LS2 LS3 LS4 LS5 LS6 LS7 LS8 IS0 aY ++ w_Y cI cJ cZ aY VY0 LY0 LY1 LY2 IY0 ++ w_P cI cJ cZ aP VP0 VP1 VP2 NP0 LP0 LP1 LP2 LP3 LP4 IP0 IP1 aS ++ w_P cI cJ cZ aQ VQ0 VQ1 VQ2 NQ0 LQ0 LQ1 LQ2 LQ3 LQ4 IQ0 IQ1 aS ++ w_T cI cJ cZ aT VT0 NT0 NT1 LT0 IT0 aS) H := hP.sub [0, 24, 25, 26, 27, 28, 29, 30, 31, 32, 33, 34, 35, 36, 37, 38, 39, 40, 41, 42, 15, 16, 17, 18, 19, 20, 21, 22, 23, 1, 2, 3, 4, 5, 6, 7, 8, 9, 10, 11, 12, 13, 14] rfl
              have hD : va_D A (w_H cI cJ cZ aH VH0 aS aP aQ aT ++ w_S cI cJ cZ aS VS0 VS1 VS2 NS0 NS1 NS2 LS0 LS1 LS2 LS3 LS4 LS5 LS6 LS7 LS8 IS0 aY ++ w_Y cI cJ cZ aY VY0 LY0 LY1 LY2 IY0 ++ w_P cI cJ cZ aP VP0 VP1 VP2 NP0 LP0 LP1 LP2 LP3 LP4 IP0 IP1 aS ++ w_P cI cJ cZ aQ VQ0 VQ1 VQ2 NQ0 LQ0 LQ1 LQ2 LQ3 LQ4 IQ0 IQ1 aS ++ w_T cI cJ cZ aT VT0 NT0 NT1 LT0 IT0 aS) := hD.sub [0, 24, 25, 26, 27, 28, 29, 30, 31, 32, 33, 34, 35, 36, 37, 38, 39, 40, 41, 42, 15, 16, 17, 18, 19, 20, 21, 22, 23, 1, 2, 3, 4, 5, 6, 7, 8, 9, 10, 11, 12, 13, 14] (by decide) rfl
              refine lv_aload_n hx hb d_HaulFlows_check_117 rfl (lv_at hl 0 rfl) ?_
              refine va_get (D := (dC, dI)) (ci := 4) (v := .ref (aS 0)) (C := R_HaulFlows) (T := T_HaulFlows) (N := 5) hx hb hG in_HaulFlows hown hK hP 0 rfl rfl 0 (by decide) (hG _ m_196) (fun _ h9 => h9) rfl d_HaulFlows_check_118 ?_
              refine va_get (D := (dC, dI)) (ci := 2) (v := .ref (aS 13)) (C := R_Site) (T := T_Site) (N := 17) hx hb hG in_Site hown hK hP 1 rfl rfl 16 (by decide) (hG _ m_89) (fun _ h9 => h9) rfl d_HaulFlows_check_121 ?_
              refine lv_iload_n hx hb d_HaulFlows_check_124 rfl (lv_at hl 1 rfl) ?_
              refine hw_lald (f := LS8) hx hb hK hP 14 1 rfl rfl (by decide) (by omega) d_HaulFlows_check_125 ?_
              refine hw_lcmp_le (tgt := 135) hx hb d_HaulFlows_check_126 d_HaulFlows_check_127 (by decide) (fun c126 => ?_) (fun c126 => ?_)
              · replace hR := (if_pos c126).symm.trans hR
                refine lv_iinc (v := nI (x1_103 + 1)) (lv' := [(1, .int (nI (x1_103 + 1))), (0, .ref (aH 0))]) hx hb d_HaulFlows_check_135 hl (k := 1) rfl (hw_inc _ 1) (by decide) rfl (fun ls hl => ?_)
                refine lv_goto (tgt := 103) hx hb d_HaulFlows_check_138 (by decide) ?_
                rw [hrec_103] at hR
                exact ih_103 (x1_103 + 1) (by first | assumption | omega | exact hw_upb (by assumption) (by omega)) (by omega) H locs hP hD hS ls (lv_sub hl [1, 0] rfl) hR
              · replace hR := (if_neg c126).symm.trans hR
                refine lv_bipush (v := nI 21) hx hb d_HaulFlows_check_130 (by decide) ?_
                refine lv_iload_n hx hb d_HaulFlows_check_132 rfl (lv_at hl 1 rfl) ?_
                refine hw_iadd hx hb d_HaulFlows_check_133 ?_
                subst hR
                exact W.iret (v := nI (21 + x1_103)) hx hb hr (fun t ht hW => ⟨⟨_, (), rfl, rfl, by rw [ht]; exact hP, va_K.moved hW.alike hK, hD⟩, hS.F ht⟩) hS.2.2 d_HaulFlows_check_134
        exact L_103 13 0 (by first | assumption | omega | exact hw_upb (by assumption) (by omega)) (by omega) H locs hP hD hS ls (lv_sub hl [1, 0] rfl) hR
      have L_58 : ∀ (n : Nat) (x1_58 : Nat) (hi : x1_58 ≤ VS2) (hfu : VS2 - x1_58 < n) (H : Heap) (locs : List Loc) (hP : va_P (dC, dI) vwCl (w_H cI cJ cZ aH VH0 aS aP aQ aT ++ w_S cI cJ cZ aS VS0 VS1 VS2 NS0 NS1 NS2 LS0 LS1 LS2 LS3 LS4 LS5 LS6 LS7 LS8 IS0 aY ++ w_Y cI cJ cZ aY VY0 LY0 LY1 LY2 IY0 ++ w_P cI cJ cZ aP VP0 VP1 VP2 NP0 LP0 LP1 LP2 LP3 LP4 IP0 IP1 aS ++ w_P cI cJ cZ aQ VQ0 VQ1 VQ2 NQ0 LQ0 LQ1 LQ2 LQ3 LQ4 IQ0 IQ1 aS ++ w_T cI cJ cZ aT VT0 NT0 NT1 LT0 IT0 aS) H) (hD : va_D A (w_H cI cJ cZ aH VH0 aS aP aQ aT ++ w_S cI cJ cZ aS VS0 VS1 VS2 NS0 NS1 NS2 LS0 LS1 LS2 LS3 LS4 LS5 LS6 LS7 LS8 IS0 aY ++ w_Y cI cJ cZ aY VY0 LY0 LY1 LY2 IY0 ++ w_P cI cJ cZ aP VP0 VP1 VP2 NP0 LP0 LP1 LP2 LP3 LP4 IP0 IP1 aS ++ w_P cI cJ cZ aQ VQ0 VQ1 VQ2 NQ0 LQ0 LQ1 LQ2 LQ3 LQ4 IQ0 IQ1 aS ++ w_T cI cJ cZ aT VT0 NT0 NT1 LT0 IT0 aS)) (hS : va_S A s.heap H locs) (ls : Array Slot) (hl : lv_has ls 2 [(0, .ref (aH 0)), (1, .int (nI x1_58))]) (hR : f_HaulFlows_check_h58 VS2 VP0 LP1 LS4 k_58 n x1_58 = r0), W p l e (headSpec u_HaulFlows_check ({ frames := 3, cells := 0, slots := 0, locals := 70 })).room s m ([.ref (aH 0)]).toArray below meth c H locs 0 0 (hh_Zi below (dC, dI) vwCl [(cI, .int), (cJ, .long), (cZ, .boolean)] A r0 (w_H cI cJ cZ aH VH0 aS aP aQ aT ++ w_S cI cJ cZ aS VS0 VS1 VS2 NS0 NS1 NS2 LS0 LS1 LS2 LS3 LS4 LS5 LS6 LS7 LS8 IS0 aY ++ w_Y cI cJ cZ aY VY0 LY0 LY1 LY2 IY0 ++ w_P cI cJ cZ aP VP0 VP1 VP2 NP0 LP0 LP1 LP2 LP3 LP4 IP0 IP1 aS ++ w_P cI cJ cZ aQ VQ0 VQ1 VQ2 NQ0 LQ0 LQ1 LQ2 LQ3 LQ4 IQ0 IQ1 aS ++ w_T cI cJ cZ aT VT0 NT0 NT1 LT0 IT0 aS) ([.ref (aH 0)]).toArray s) (F0 m 58 ls []) := by
        intro n
        induction n with
        | zero =>
          intro x1_58 hi hfu H locs hP hD hS ls hl hR
          exact absurd hfu (Nat.not_lt_zero _)
        | succ n ih_58 =>
          intro x1_58 hi hfu H locs hP hD hS ls hl hR
          rw [f_HaulFlows_check_h58] at hR
          obtain ⟨rec_58, hrec_58, hR⟩ : ∃ r, r = _ ∧ f_HaulFlows_check_h58B VS2 VP0 LP1 LS4 k_58 r x1_58 = r0 := ⟨_, rfl, hR⟩
          unfold f_HaulFlows_check_h58B at hR
          refine lv_iload_n hx hb d_HaulFlows_check_58 rfl (lv_at hl 1 rfl) ?_
          refine lv_aload_n hx hb d_HaulFlows_check_59 rfl (lv_at hl 0 rfl) ?_
          refine va_get (D := (dC, dI)) (ci := 4) (v := .ref (aS 0)) (C := R_HaulFlows) (T := T_HaulFlows) (N := 5) hx hb hG in_HaulFlows hown hK hP 0 rfl rfl 0 (by decide) (hG _ m_196) (fun _ h9 => h9) rfl d_HaulFlows_check_60 ?_
          refine va_get (D := (dC, dI)) (ci := 2) (v := .int (nI VS2)) (C := R_Site) (T := T_Site) (N := 17) hx hb hG in_Site hown hK hP 1 rfl rfl 2 (by decide) (hG _ m_62) (fun _ h9 => h9) rfl d_HaulFlows_check_63 ?_
          refine hw_icmp_ge (tgt := 101) hx hb d_HaulFlows_check_66 (by decide) (by omega) (by omega) (fun c66 => ?_) (fun c66 => ?_)
          · replace hR := (if_pos c66).symm.trans hR
            exact X_58 x1_58 (by first | assumption | omega | exact hw_upb (by assumption) (by omega)) H locs hP hD hS ls (lv_sub hl [0, 1] rfl) hR
          · replace hR := (if_neg c66).symm.trans hR
            refine lv_aload_n hx hb d_HaulFlows_check_69 rfl (lv_at hl 0 rfl) ?_
            refine va_get (D := (dC, dI)) (ci := 4) (v := .ref (aP 0)) (C := R_HaulFlows) (T := T_HaulFlows) (N := 5) hx hb hG in_HaulFlows hown hK hP 0 rfl rfl 1 (by decide) (hG _ m_197) (fun _ h9 => h9) rfl d_HaulFlows_check_70 ?_
            refine lv_iload_n hx hb d_HaulFlows_check_73 rfl (lv_at hl 1 rfl) ?_
            obtain ⟨y74, hy74, hR⟩ := hw_bind hR
            have hM := c_Plan_amountTo l dC dI cI cJ cZ H.size aP VP0 VP1 VP2 NP0 LP0 LP1 LP2 LP3 LP4 IP0 IP1 aS VS0 VS1 VS2 NS0 NS1 NS2 LS0 LS1 LS2 LS3 LS4 LS5 LS6 LS7 LS8 IS0 aY VY0 LY0 LY1 LY2 IY0 x1_58 (by first | assumption | omega) (by first | assumption | omega)
            rw [hy74] at hM
            refine hw_callVl (As := [.int (nI x1_58)]) (rest := []) (wr := w_H cI cJ cZ aH VH0 aS aP aQ aT ++ w_P cI cJ cZ aQ VQ0 VQ1 VQ2 NQ0 LQ0 LQ1 LQ2 LQ3 LQ4 IQ0 IQ1 aS ++ w_T cI cJ cZ aT VT0 NT0 NT1 LT0 IT0 aS) ⟨hx, hb, hml, hown, hG⟩ hM (hw_cwV 1 hG m_452 m_453 m_454 m_5 m_455 rfl rfl (by decide +kernel) ⟨Nat.le_of_ble_eq_true rfl, Nat.le_of_ble_eq_true rfl⟩) hK hP hD hS hA [20, 21, 22, 23, 24, 25, 26, 27, 28, 1, 2, 3, 4, 5, 6, 7, 8, 9, 10, 11, 12, 13, 14, 15, 16, 17, 18, 19] [0, 29, 30, 31, 32, 33, 34, 35, 36, 37, 38, 39, 40, 41, 42] rfl rfl (by decide) (by decide) (by decide) (hw_recv hK hP 20 rfl rfl) rfl hl.1 rfl (Nat.le_of_ble_eq_true rfl) d_HaulFlows_check_74 ⟨Nat.le_of_ble_eq_true rfl, Nat.le_of_ble_eq_true rfl⟩ (fun H locs hP hD hS => ?_)
            have hP : va_P (dC, dI) vwCl (w_H cI cJ cZ aH VH0 aS aP aQ aT ++ w_S cI cJ cZ aS VS0 VS1 VS2 NS0 NS1 NS2 LS0 LS1 LS2 LS3 LS4 LS5 LS6 LS7 LS8 IS0 aY ++ w_Y cI cJ cZ aY VY0 LY0 LY1 LY2 IY0 ++ w_P cI cJ cZ aP VP0 VP1 VP2 NP0 LP0 LP1 LP2 LP3 LP4 IP0 IP1 aS ++ w_P cI cJ cZ aQ VQ0 VQ1 VQ2 NQ0 LQ0 LQ1 LQ2 LQ3 LQ4 IQ0 IQ1 aS ++ w_T cI cJ cZ aT VT0 NT0 NT1 LT0 IT0 aS) H := hP.sub [0, 24, 25, 26, 27, 28, 29, 30, 31, 32, 33, 34, 35, 36, 37, 38, 39, 40, 41, 42, 15, 16, 17, 18, 19, 20, 21, 22, 23, 1, 2, 3, 4, 5, 6, 7, 8, 9, 10, 11, 12, 13, 14] rfl
            have hD : va_D A (w_H cI cJ cZ aH VH0 aS aP aQ aT ++ w_S cI cJ cZ aS VS0 VS1 VS2 NS0 NS1 NS2 LS0 LS1 LS2 LS3 LS4 LS5 LS6 LS7 LS8 IS0 aY ++ w_Y cI cJ cZ aY VY0 LY0 LY1 LY2 IY0 ++ w_P cI cJ cZ aP VP0 VP1 VP2 NP0 LP0 LP1 LP2 LP3 LP4 IP0 IP1 aS ++ w_P cI cJ cZ aQ VQ0 VQ1 VQ2 NQ0 LQ0 LQ1 LQ2 LQ3 LQ4 IQ0 IQ1 aS ++ w_T cI cJ cZ aT VT0 NT0 NT1 LT0 IT0 aS) := hD.sub [0, 24, 25, 26, 27, 28, 29, 30, 31, 32, 33, 34, 35, 36, 37, 38, 39, 40, 41, 42, 15, 16, 17, 18, 19, 20, 21, 22, 23, 1, 2, 3, 4, 5, 6, 7, 8, 9, 10, 11, 12, 13, 14] (by decide) rfl
            refine lv_aload_n hx hb d_HaulFlows_check_77 rfl (lv_at hl 0 rfl) ?_
            refine va_get (D := (dC, dI)) (ci := 4) (v := .ref (aS 0)) (C := R_HaulFlows) (T := T_HaulFlows) (N := 5) hx hb hG in_HaulFlows hown hK hP 0 rfl rfl 0 (by decide) (hG _ m_196) (fun _ h9 => h9) rfl d_HaulFlows_check_78 ?_
            refine va_get (D := (dC, dI)) (ci := 2) (v := .ref (aS 7)) (C := R_Site) (T := T_Site) (N := 17) hx hb hG in_Site hown hK hP 1 rfl rfl 10 (by decide) (hG _ m_75) (fun _ h9 => h9) rfl d_HaulFlows_check_81 ?_
            refine lv_iload_n hx hb d_HaulFlows_check_84 rfl (lv_at hl 1 rfl) ?_
            refine hw_lald (f := LS4) hx hb hK hP 8 1 rfl rfl (by decide) (by omega) d_HaulFlows_check_85 ?_
            refine hw_lcmp_eq (tgt := 95) hx hb d_HaulFlows_check_86 d_HaulFlows_check_87 (by decide) (fun c86 => ?_) (fun c86 => ?_)
            · replace hR := (if_pos c86).symm.trans hR
              refine lv_iinc (v := nI (x1_58 + 1)) (lv' := [(1, .int (nI (x1_58 + 1))), (0, .ref (aH 0))]) hx hb d_HaulFlows_check_95 hl (k := 1) rfl (hw_inc _ 1) (by decide) rfl (fun ls hl => ?_)
              refine lv_goto (tgt := 58) hx hb d_HaulFlows_check_98 (by decide) ?_
              rw [hrec_58] at hR
              exact ih_58 (x1_58 + 1) (by first | assumption | omega | exact hw_upb (by assumption) (by omega)) (by omega) H locs hP hD hS ls (lv_sub hl [1, 0] rfl) hR
            · replace hR := (if_neg c86).symm.trans hR
              refine lv_bipush (v := nI 13) hx hb d_HaulFlows_check_90 (by decide) ?_
              refine lv_iload_n hx hb d_HaulFlows_check_92 rfl (lv_at hl 1 rfl) ?_
              refine hw_iadd hx hb d_HaulFlows_check_93 ?_
              subst hR
              exact W.iret (v := nI (13 + x1_58)) hx hb hr (fun t ht hW => ⟨⟨_, (), rfl, rfl, by rw [ht]; exact hP, va_K.moved hW.alike hK, hD⟩, hS.F ht⟩) hS.2.2 d_HaulFlows_check_94
      exact L_58 9 0 (by first | assumption | omega | exact hw_upb (by assumption) (by omega)) (by omega) H locs hP hD hS ls (lv_sub hl [1, 0] rfl) hR
    have L_12 : ∀ (n : Nat) (x1_12 : Nat) (hi : x1_12 ≤ VS0 + VS1) (hfu : VS0 + VS1 - x1_12 < n) (H : Heap) (locs : List Loc) (hP : va_P (dC, dI) vwCl (w_H cI cJ cZ aH VH0 aS aP aQ aT ++ w_S cI cJ cZ aS VS0 VS1 VS2 NS0 NS1 NS2 LS0 LS1 LS2 LS3 LS4 LS5 LS6 LS7 LS8 IS0 aY ++ w_Y cI cJ cZ aY VY0 LY0 LY1 LY2 IY0 ++ w_P cI cJ cZ aP VP0 VP1 VP2 NP0 LP0 LP1 LP2 LP3 LP4 IP0 IP1 aS ++ w_P cI cJ cZ aQ VQ0 VQ1 VQ2 NQ0 LQ0 LQ1 LQ2 LQ3 LQ4 IQ0 IQ1 aS ++ w_T cI cJ cZ aT VT0 NT0 NT1 LT0 IT0 aS) H) (hD : va_D A (w_H cI cJ cZ aH VH0 aS aP aQ aT ++ w_S cI cJ cZ aS VS0 VS1 VS2 NS0 NS1 NS2 LS0 LS1 LS2 LS3 LS4 LS5 LS6 LS7 LS8 IS0 aY ++ w_Y cI cJ cZ aY VY0 LY0 LY1 LY2 IY0 ++ w_P cI cJ cZ aP VP0 VP1 VP2 NP0 LP0 LP1 LP2 LP3 LP4 IP0 IP1 aS ++ w_P cI cJ cZ aQ VQ0 VQ1 VQ2 NQ0 LQ0 LQ1 LQ2 LQ3 LQ4 IQ0 IQ1 aS ++ w_T cI cJ cZ aT VT0 NT0 NT1 LT0 IT0 aS)) (hS : va_S A s.heap H locs) (ls : Array Slot) (hl : lv_has ls 2 [(0, .ref (aH 0)), (1, .int (nI x1_12))]) (hR : f_HaulFlows_check_h12 VS0 VS1 VP1 LP1 NS0 LS0 LS6 LS7 k_12 n x1_12 = r0), W p l e (headSpec u_HaulFlows_check ({ frames := 3, cells := 0, slots := 0, locals := 70 })).room s m ([.ref (aH 0)]).toArray below meth c H locs 0 0 (hh_Zi below (dC, dI) vwCl [(cI, .int), (cJ, .long), (cZ, .boolean)] A r0 (w_H cI cJ cZ aH VH0 aS aP aQ aT ++ w_S cI cJ cZ aS VS0 VS1 VS2 NS0 NS1 NS2 LS0 LS1 LS2 LS3 LS4 LS5 LS6 LS7 LS8 IS0 aY ++ w_Y cI cJ cZ aY VY0 LY0 LY1 LY2 IY0 ++ w_P cI cJ cZ aP VP0 VP1 VP2 NP0 LP0 LP1 LP2 LP3 LP4 IP0 IP1 aS ++ w_P cI cJ cZ aQ VQ0 VQ1 VQ2 NQ0 LQ0 LQ1 LQ2 LQ3 LQ4 IQ0 IQ1 aS ++ w_T cI cJ cZ aT VT0 NT0 NT1 LT0 IT0 aS) ([.ref (aH 0)]).toArray s) (F0 m 12 ls []) := by
      intro n
      induction n with
      | zero =>
        intro x1_12 hi hfu H locs hP hD hS ls hl hR
        exact absurd hfu (Nat.not_lt_zero _)
      | succ n ih_12 =>
        intro x1_12 hi hfu H locs hP hD hS ls hl hR
        rw [f_HaulFlows_check_h12] at hR
        obtain ⟨rec_12, hrec_12, hR⟩ : ∃ r, r = _ ∧ f_HaulFlows_check_h12B VS0 VS1 VP1 LP1 NS0 LS0 LS6 LS7 k_12 r x1_12 = r0 := ⟨_, rfl, hR⟩
        unfold f_HaulFlows_check_h12B at hR
        refine lv_iload_n hx hb d_HaulFlows_check_12 rfl (lv_at hl 1 rfl) ?_
        refine lv_aload_n hx hb d_HaulFlows_check_13 rfl (lv_at hl 0 rfl) ?_
        refine va_get (D := (dC, dI)) (ci := 4) (v := .ref (aS 0)) (C := R_HaulFlows) (T := T_HaulFlows) (N := 5) hx hb hG in_HaulFlows hown hK hP 0 rfl rfl 0 (by decide) (hG _ m_196) (fun _ h9 => h9) rfl d_HaulFlows_check_14 ?_
        obtain ⟨y17, hy17, hR⟩ := hw_bind hR
        have hM := c_Site_sources l dC dI cI cJ cZ H.size aS VS0 VS1 VS2 NS0 NS1 NS2 LS0 LS1 LS2 LS3 LS4 LS5 LS6 LS7 LS8 IS0 aY VY0 LY0 LY1 LY2 IY0
        rw [hy17] at hM
        refine hw_callVi (As := []) (rest := [.int (nI x1_12)]) (wr := w_H cI cJ cZ aH VH0 aS aP aQ aT ++ w_P cI cJ cZ aP VP0 VP1 VP2 NP0 LP0 LP1 LP2 LP3 LP4 IP0 IP1 aS ++ w_P cI cJ cZ aQ VQ0 VQ1 VQ2 NQ0 LQ0 LQ1 LQ2 LQ3 LQ4 IQ0 IQ1 aS ++ w_T cI cJ cZ aT VT0 NT0 NT1 LT0 IT0 aS) ⟨hx, hb, hml, hown, hG⟩ hM (hw_cwV 0 hG m_291 m_292 m_293 m_2 m_294 rfl rfl (by decide +kernel) ⟨Nat.le_of_ble_eq_true rfl, Nat.le_of_ble_eq_true rfl⟩) hK hP hD hS hA [1, 2, 3, 4, 5, 6, 7, 8, 9, 10, 11, 12, 13, 14, 15, 16, 17, 18, 19] [0, 20, 21, 22, 23, 24, 25, 26, 27, 28, 29, 30, 31, 32, 33, 34, 35, 36, 37, 38, 39, 40, 41, 42] rfl rfl (by decide) (by decide) (by decide) (hw_recv hK hP 1 rfl rfl) rfl hl.1 rfl (Nat.le_of_ble_eq_true rfl) d_HaulFlows_check_17 ⟨Nat.le_of_ble_eq_true rfl, Nat.le_of_ble_eq_true rfl⟩ (fun H locs hP hD hS => ?_)
        have hP : va_P (dC, dI) vwCl (w_H cI cJ cZ aH VH0 aS aP aQ aT ++ w_S cI cJ cZ aS VS0 VS1 VS2 NS0 NS1 NS2 LS0 LS1 LS2 LS3 LS4 LS5 LS6 LS7 LS8 IS0 aY ++ w_Y cI cJ cZ aY VY0 LY0 LY1 LY2 IY0 ++ w_P cI cJ cZ aP VP0 VP1 VP2 NP0 LP0 LP1 LP2 LP3 LP4 IP0 IP1 aS ++ w_P cI cJ cZ aQ VQ0 VQ1 VQ2 NQ0 LQ0 LQ1 LQ2 LQ3 LQ4 IQ0 IQ1 aS ++ w_T cI cJ cZ aT VT0 NT0 NT1 LT0 IT0 aS) H := hP.sub [0, 24, 25, 26, 27, 28, 29, 30, 31, 32, 33, 34, 35, 36, 37, 38, 39, 40, 41, 42, 1, 2, 3, 4, 5, 6, 7, 8, 9, 10, 11, 12, 13, 14, 15, 16, 17, 18, 19, 20, 21, 22, 23] rfl
        have hD : va_D A (w_H cI cJ cZ aH VH0 aS aP aQ aT ++ w_S cI cJ cZ aS VS0 VS1 VS2 NS0 NS1 NS2 LS0 LS1 LS2 LS3 LS4 LS5 LS6 LS7 LS8 IS0 aY ++ w_Y cI cJ cZ aY VY0 LY0 LY1 LY2 IY0 ++ w_P cI cJ cZ aP VP0 VP1 VP2 NP0 LP0 LP1 LP2 LP3 LP4 IP0 IP1 aS ++ w_P cI cJ cZ aQ VQ0 VQ1 VQ2 NQ0 LQ0 LQ1 LQ2 LQ3 LQ4 IQ0 IQ1 aS ++ w_T cI cJ cZ aT VT0 NT0 NT1 LT0 IT0 aS) := hD.sub [0, 24, 25, 26, 27, 28, 29, 30, 31, 32, 33, 34, 35, 36, 37, 38, 39, 40, 41, 42, 1, 2, 3, 4, 5, 6, 7, 8, 9, 10, 11, 12, 13, 14, 15, 16, 17, 18, 19, 20, 21, 22, 23] (by decide) rfl
        have hs17 : y17 = VS0 + VS1 := by rw [← hy17]; rfl
        refine hw_icmp_ge (tgt := 56) hx hb d_HaulFlows_check_20 (by decide) (by omega) (by omega) (fun c20 => ?_) (fun c20 => ?_)
        · replace hR := (if_pos c20).symm.trans hR
          exact X_12 x1_12 (by first | assumption | omega | exact hw_upb (by assumption) (by omega)) H locs hP hD hS ls (lv_sub hl [0, 1] rfl) hR
        · replace hR := (if_neg c20).symm.trans hR
          refine lv_aload_n hx hb d_HaulFlows_check_23 rfl (lv_at hl 0 rfl) ?_
          refine va_get (D := (dC, dI)) (ci := 4) (v := .ref (aP 0)) (C := R_HaulFlows) (T := T_HaulFlows) (N := 5) hx hb hG in_HaulFlows hown hK hP 0 rfl rfl 1 (by decide) (hG _ m_197) (fun _ h9 => h9) rfl d_HaulFlows_check_24 ?_
          refine lv_iload_n hx hb d_HaulFlows_check_27 rfl (lv_at hl 1 rfl) ?_
          refine lv_iload_n hx hb d_HaulFlows_check_28 rfl (lv_at hl 1 rfl) ?_
          refine lv_iconst (v := nI 1) hx hb d_HaulFlows_check_29 (by decide) ?_
          refine hw_iadd hx hb d_HaulFlows_check_30 ?_
          obtain ⟨y31, hy31, hR⟩ := hw_bind hR
          have hM := c_Plan_amountFrom l dC dI cI cJ cZ H.size aP VP0 VP1 VP2 NP0 LP0 LP1 LP2 LP3 LP4 IP0 IP1 aS VS0 VS1 VS2 NS0 NS1 NS2 LS0 LS1 LS2 LS3 LS4 LS5 LS6 LS7 LS8 IS0 aY VY0 LY0 LY1 LY2 IY0 x1_12 (x1_12 + 1) (by first | assumption | omega) (by first | assumption | omega) (by first | assumption | omega)
          rw [hy31] at hM
          refine hw_callVl (As := [.int (nI x1_12), .int (nI (x1_12 + 1))]) (rest := []) (wr := w_H cI cJ cZ aH VH0 aS aP aQ aT ++ w_P cI cJ cZ aQ VQ0 VQ1 VQ2 NQ0 LQ0 LQ1 LQ2 LQ3 LQ4 IQ0 IQ1 aS ++ w_T cI cJ cZ aT VT0 NT0 NT1 LT0 IT0 aS) ⟨hx, hb, hml, hown, hG⟩ hM (hw_cwV 2 hG m_313 m_314 m_315 m_5 m_316 rfl rfl (by decide +kernel) ⟨Nat.le_of_ble_eq_true rfl, Nat.le_of_ble_eq_true rfl⟩) hK hP hD hS hA [20, 21, 22, 23, 24, 25, 26, 27, 28, 1, 2, 3, 4, 5, 6, 7, 8, 9, 10, 11, 12, 13, 14, 15, 16, 17, 18, 19] [0, 29, 30, 31, 32, 33, 34, 35, 36, 37, 38, 39, 40, 41, 42] rfl rfl (by decide) (by decide) (by decide) (hw_recv hK hP 20 rfl rfl) rfl hl.1 rfl (Nat.le_of_ble_eq_true rfl) d_HaulFlows_check_31 ⟨Nat.le_of_ble_eq_true rfl, Nat.le_of_ble_eq_true rfl⟩ (fun H locs hP hD hS => ?_)
          have hP : va_P (dC, dI) vwCl (w_H cI cJ cZ aH VH0 aS aP aQ aT ++ w_S cI cJ cZ aS VS0 VS1 VS2 NS0 NS1 NS2 LS0 LS1 LS2 LS3 LS4 LS5 LS6 LS7 LS8 IS0 aY ++ w_Y cI cJ cZ aY VY0 LY0 LY1 LY2 IY0 ++ w_P cI cJ cZ aP VP0 VP1 VP2 NP0 LP0 LP1 LP2 LP3 LP4 IP0 IP1 aS ++ w_P cI cJ cZ aQ VQ0 VQ1 VQ2 NQ0 LQ0 LQ1 LQ2 LQ3 LQ4 IQ0 IQ1 aS ++ w_T cI cJ cZ aT VT0 NT0 NT1 LT0 IT0 aS) H := hP.sub [0, 24, 25, 26, 27, 28, 29, 30, 31, 32, 33, 34, 35, 36, 37, 38, 39, 40, 41, 42, 15, 16, 17, 18, 19, 20, 21, 22, 23, 1, 2, 3, 4, 5, 6, 7, 8, 9, 10, 11, 12, 13, 14] rfl
          have hD : va_D A (w_H cI cJ cZ aH VH0 aS aP aQ aT ++ w_S cI cJ cZ aS VS0 VS1 VS2 NS0 NS1 NS2 LS0 LS1 LS2 LS3 LS4 LS5 LS6 LS7 LS8 IS0 aY ++ w_Y cI cJ cZ aY VY0 LY0 LY1 LY2 IY0 ++ w_P cI cJ cZ aP VP0 VP1 VP2 NP0 LP0 LP1 LP2 LP3 LP4 IP0 IP1 aS ++ w_P cI cJ cZ aQ VQ0 VQ1 VQ2 NQ0 LQ0 LQ1 LQ2 LQ3 LQ4 IQ0 IQ1 aS ++ w_T cI cJ cZ aT VT0 NT0 NT1 LT0 IT0 aS) := hD.sub [0, 24, 25, 26, 27, 28, 29, 30, 31, 32, 33, 34, 35, 36, 37, 38, 39, 40, 41, 42, 15, 16, 17, 18, 19, 20, 21, 22, 23, 1, 2, 3, 4, 5, 6, 7, 8, 9, 10, 11, 12, 13, 14] (by decide) rfl
          refine lv_aload_n hx hb d_HaulFlows_check_34 rfl (lv_at hl 0 rfl) ?_
          refine va_get (D := (dC, dI)) (ci := 4) (v := .ref (aS 0)) (C := R_HaulFlows) (T := T_HaulFlows) (N := 5) hx hb hG in_HaulFlows hown hK hP 0 rfl rfl 0 (by decide) (hG _ m_196) (fun _ h9 => h9) rfl d_HaulFlows_check_35 ?_
          refine lv_iload_n hx hb d_HaulFlows_check_38 rfl (lv_at hl 1 rfl) ?_
          obtain ⟨y39, hy39, hR⟩ := hw_bind hR
          have hM := c_Site_capacity l dC dI cI cJ cZ H.size aS VS0 VS1 VS2 NS0 NS1 NS2 LS0 LS1 LS2 LS3 LS4 LS5 LS6 LS7 LS8 IS0 aY VY0 LY0 LY1 LY2 IY0 x1_12 (by first | assumption | omega) (by first | assumption | omega) (by first | assumption | omega)
          rw [hy39] at hM
          refine hw_callVl (As := [.int (nI x1_12)]) (rest := [.long y31]) (wr := w_H cI cJ cZ aH VH0 aS aP aQ aT ++ w_P cI cJ cZ aP VP0 VP1 VP2 NP0 LP0 LP1 LP2 LP3 LP4 IP0 IP1 aS ++ w_P cI cJ cZ aQ VQ0 VQ1 VQ2 NQ0 LQ0 LQ1 LQ2 LQ3 LQ4 IQ0 IQ1 aS ++ w_T cI cJ cZ aT VT0 NT0 NT1 LT0 IT0 aS) ⟨hx, hb, hml, hown, hG⟩ hM (hw_cwV 1 hG m_451 m_383 m_384 m_2 m_385 rfl rfl (by decide +kernel) ⟨Nat.le_of_ble_eq_true rfl, Nat.le_of_ble_eq_true rfl⟩) hK hP hD hS hA [1, 2, 3, 4, 5, 6, 7, 8, 9, 10, 11, 12, 13, 14, 15, 16, 17, 18, 19] [0, 20, 21, 22, 23, 24, 25, 26, 27, 28, 29, 30, 31, 32, 33, 34, 35, 36, 37, 38, 39, 40, 41, 42] rfl rfl (by decide) (by decide) (by decide) (hw_recv hK hP 1 rfl rfl) rfl hl.1 rfl (Nat.le_of_ble_eq_true rfl) d_HaulFlows_check_39 ⟨Nat.le_of_ble_eq_true rfl, Nat.le_of_ble_eq_true rfl⟩ (fun H locs hP hD hS => ?_)
          have hP : va_P (dC, dI) vwCl (w_H cI cJ cZ aH VH0 aS aP aQ aT ++ w_S cI cJ cZ aS VS0 VS1 VS2 NS0 NS1 NS2 LS0 LS1 LS2 LS3 LS4 LS5 LS6 LS7 LS8 IS0 aY ++ w_Y cI cJ cZ aY VY0 LY0 LY1 LY2 IY0 ++ w_P cI cJ cZ aP VP0 VP1 VP2 NP0 LP0 LP1 LP2 LP3 LP4 IP0 IP1 aS ++ w_P cI cJ cZ aQ VQ0 VQ1 VQ2 NQ0 LQ0 LQ1 LQ2 LQ3 LQ4 IQ0 IQ1 aS ++ w_T cI cJ cZ aT VT0 NT0 NT1 LT0 IT0 aS) H := hP.sub [0, 24, 25, 26, 27, 28, 29, 30, 31, 32, 33, 34, 35, 36, 37, 38, 39, 40, 41, 42, 1, 2, 3, 4, 5, 6, 7, 8, 9, 10, 11, 12, 13, 14, 15, 16, 17, 18, 19, 20, 21, 22, 23] rfl
          have hD : va_D A (w_H cI cJ cZ aH VH0 aS aP aQ aT ++ w_S cI cJ cZ aS VS0 VS1 VS2 NS0 NS1 NS2 LS0 LS1 LS2 LS3 LS4 LS5 LS6 LS7 LS8 IS0 aY ++ w_Y cI cJ cZ aY VY0 LY0 LY1 LY2 IY0 ++ w_P cI cJ cZ aP VP0 VP1 VP2 NP0 LP0 LP1 LP2 LP3 LP4 IP0 IP1 aS ++ w_P cI cJ cZ aQ VQ0 VQ1 VQ2 NQ0 LQ0 LQ1 LQ2 LQ3 LQ4 IQ0 IQ1 aS ++ w_T cI cJ cZ aT VT0 NT0 NT1 LT0 IT0 aS) := hD.sub [0, 24, 25, 26, 27, 28, 29, 30, 31, 32, 33, 34, 35, 36, 37, 38, 39, 40, 41, 42, 1, 2, 3, 4, 5, 6, 7, 8, 9, 10, 11, 12, 13, 14, 15, 16, 17, 18, 19, 20, 21, 22, 23] (by decide) rfl
          refine hw_lcmp_le (tgt := 50) hx hb d_HaulFlows_check_42 d_HaulFlows_check_43 (by decide) (fun c42 => ?_) (fun c42 => ?_)
          · replace hR := (if_pos c42).symm.trans hR
            refine lv_iinc (v := nI (x1_12 + 1)) (lv' := [(1, .int (nI (x1_12 + 1))), (0, .ref (aH 0))]) hx hb d_HaulFlows_check_50 hl (k := 1) rfl (hw_inc _ 1) (by decide) rfl (fun ls hl => ?_)
            refine lv_goto (tgt := 12) hx hb d_HaulFlows_check_53 (by decide) ?_
            rw [hrec_12] at hR
            exact ih_12 (x1_12 + 1) (by first | assumption | omega | exact hw_upb (by assumption) (by omega)) (by omega) H locs hP hD hS ls (lv_sub hl [1, 0] rfl) hR
          · replace hR := (if_neg c42).symm.trans hR
            refine lv_iconst (v := nI 1) hx hb d_HaulFlows_check_46 (by decide) ?_
            refine lv_iload_n hx hb d_HaulFlows_check_47 rfl (lv_at hl 1 rfl) ?_
            refine hw_iadd hx hb d_HaulFlows_check_48 ?_
            subst hR
            exact W.iret (v := nI (1 + x1_12)) hx hb hr (fun t ht hW => ⟨⟨_, (), rfl, rfl, by rw [ht]; exact hP, va_K.moved hW.alike hK, hD⟩, hS.F ht⟩) hS.2.2 d_HaulFlows_check_49
    exact L_12 13 0 (by first | assumption | omega | exact hw_upb (by assumption) (by omega)) (by omega) H locs hP hD hS ls (lv_sub hl [1, 0] rfl) hR
  · replace hR := (if_neg c5).symm.trans hR
    refine lv_iconst (v := (-1)) hx hb d_HaulFlows_check_8 (by decide) ?_
    subst hR
    exact W.iret (v := (-1)) hx hb hr (fun t ht hW => ⟨⟨_, (), rfl, rfl, by rw [ht]; exact hP, va_K.moved hW.alike hK, hD⟩, hS.F ht⟩) hS.2.2 d_HaulFlows_check_9
def f_HaulFlows_level (VH0 : Nat) (VS0 : Nat) (NS0 : Nat → Nat) (LS0 : Nat → Int64) (LS6 : Nat → Int64) (LS7 : Nat → Int64) (VP1 : Nat) (LP1 : Nat → Int64) (x1 : Int32) (x2 : Int32) : Int64 :=
  if VH0 = 1 then (hh_bind (f_HaulFlows_isBelow x1 (nI VS0)) (fun y16 => if y16 = 0 then ((-1)) else (hh_bind (f_HaulFlows_isBelow x2 (nI 2)) (fun y24 => if y24 = 0 then ((-1)) else (hh_bind (f_Site_gives NS0 LS0 LS6 LS7 x1.toNatClampNeg) (fun y39 => if x2 = 0 then (hh_bind (f_Plan_amountFrom VP1 LP1 x1.toNatClampNeg (x1.toNatClampNeg + 1)) (fun y56 => (y39 - y56))) else (y39))))))) else ((-1))
set_option maxHeartbeats 4000000 in
set_option maxRecDepth 100000 in
theorem c_HaulFlows_level (l : Launch) (dC : Nat → ClassId) (dI : Nat → Nat → Nat) (cI cJ cZ : ClassId) (sz : Nat) (aH : Nat → Nat) (VH0 : Nat) (aS : Nat → Nat) (VS0 : Nat) (VS1 : Nat) (VS2 : Nat) (NS0 : Nat → Nat) (NS1 : Nat → Nat) (NS2 : Nat → Nat) (LS0 : Nat → Int64) (LS1 : Nat → Int64) (LS2 : Nat → Int64) (LS3 : Nat → Int64) (LS4 : Nat → Int64) (LS5 : Nat → Int64) (LS6 : Nat → Int64) (LS7 : Nat → Int64) (LS8 : Nat → Int64) (IS0 : Nat → Int32) (aY : Nat → Nat) (VY0 : Nat) (LY0 : Nat → Int64) (LY1 : Nat → Int64) (LY2 : Nat → Int64) (IY0 : Nat → Int32) (aP : Nat → Nat) (VP0 : Nat) (VP1 : Nat) (VP2 : Nat) (NP0 : Nat → Nat) (LP0 : Nat → Int64) (LP1 : Nat → Int64) (LP2 : Nat → Int64) (LP3 : Nat → Int64) (LP4 : Nat → Int64) (IP0 : Nat → Int32) (IP1 : Nat → Int32) (aQ : Nat → Nat) (VQ0 : Nat) (VQ1 : Nat) (VQ2 : Nat) (NQ0 : Nat → Nat) (LQ0 : Nat → Int64) (LQ1 : Nat → Int64) (LQ2 : Nat → Int64) (LQ3 : Nat → Int64) (LQ4 : Nat → Int64) (IQ0 : Nat → Int32) (IQ1 : Nat → Int32) (aT : Nat → Nat) (VT0 : Nat) (NT0 : Nat → Nat) (NT1 : Nat → Nat) (LT0 : Nat → Int64) (IT0 : Nat → Int32) (x1 : Int32) (x2 : Int32) (hc8 : VS0 ≤ 8) (hp4 : VS1 ≤ 4) (hf8 : VS2 ≤ 8) (hy6 : VY0 ≤ 6) (hk4 : ∀ i, NS0 i < 4) (hcw : ∀ i, NS1 i < 12) (hfw : ∀ i, NS2 i < 12) (hq : ∀ i, NP0 i < 21) (htq : ∀ i, NT1 i < 34) (hst : VH0 ≤ 2) (hpl : VH0 = 1 → VP0 = VS0 + VS1 ∧ VP1 = VS2) (hsf : VT0 ≤ 8) : hh_Cl l y_HaulFlows_level u_HaulFlows_level ({ frames := 2, cells := 0, slots := 0, locals := 48 }) (dC, dI) vwCl [(cI, .int), (cJ, .long), (cZ, .boolean)] (w_H cI cJ cZ aH VH0 aS aP aQ aT ++ w_S cI cJ cZ aS VS0 VS1 VS2 NS0 NS1 NS2 LS0 LS1 LS2 LS3 LS4 LS5 LS6 LS7 LS8 IS0 aY ++ w_Y cI cJ cZ aY VY0 LY0 LY1 LY2 IY0 ++ w_P cI cJ cZ aP VP0 VP1 VP2 NP0 LP0 LP1 LP2 LP3 LP4 IP0 IP1 aS ++ w_P cI cJ cZ aQ VQ0 VQ1 VQ2 NQ0 LQ0 LQ1 LQ2 LQ3 LQ4 IQ0 IQ1 aS ++ w_T cI cJ cZ aT VT0 NT0 NT1 LT0 IT0 aS) sz [.ref (aH 0), .int x1, .int x2] (f_HaulFlows_level VH0 VS0 NS0 LS0 LS6 LS7 VP1 LP1 x1 x2) (w_H cI cJ cZ aH VH0 aS aP aQ aT ++ w_S cI cJ cZ aS VS0 VS1 VS2 NS0 NS1 NS2 LS0 LS1 LS2 LS3 LS4 LS5 LS6 LS7 LS8 IS0 aY ++ w_Y cI cJ cZ aY VY0 LY0 LY1 LY2 IY0 ++ w_P cI cJ cZ aP VP0 VP1 VP2 NP0 LP0 LP1 LP2 LP3 LP4 IP0 IP1 aS ++ w_P cI cJ cZ aQ VQ0 VQ1 VQ2 NQ0 LQ0 LQ1 LQ2 LQ3 LQ4 IQ0 IQ1 aS ++ w_T cI cJ cZ aT VT0 NT0 NT1 LT0 IT0 aS) 0 0 := by
  unfold hh_Cl
  refine Met.ofW (cc := b_HaulFlows_level) (maxL := 5) (ret := (some .long)) (by decide) rfl ?_
  intro p e s m args below meth c s₁ B hml hv
  obtain ⟨rfl, hsz, hP, hK, hD0⟩ := hv
  have hx := B.exec
  have hb := B.bytes
  have hr := B.returns
  have hts := atoms_spec (ws := u_HaulFlows_level) B.pre
  have hG : ∀ w ∈ wG, w.before ([.ref (aH 0), .int x1, .int x2]).toArray s = true := fun w h => hts w (List.mem_cons_of_mem _ h)
  have hown : s.vm.findClass R_HaulFlows = some m.cls := findClass_of_methodNamed B.named
  have hlocks := B.notSynchronized
  subst hsz
  have hD := hD0.self (sz := s.heap.size)
  generalize hAe : va_A (w_H cI cJ cZ aH VH0 aS aP aQ aT ++ w_S cI cJ cZ aS VS0 VS1 VS2 NS0 NS1 NS2 LS0 LS1 LS2 LS3 LS4 LS5 LS6 LS7 LS8 IS0 aY ++ w_Y cI cJ cZ aY VY0 LY0 LY1 LY2 IY0 ++ w_P cI cJ cZ aP VP0 VP1 VP2 NP0 LP0 LP1 LP2 LP3 LP4 IP0 IP1 aS ++ w_P cI cJ cZ aQ VQ0 VQ1 VQ2 NQ0 LQ0 LQ1 LQ2 LQ3 LQ4 IQ0 IQ1 aS ++ w_T cI cJ cZ aT VT0 NT0 NT1 LT0 IT0 aS) s.heap.size = A at hD ⊢
  have hA : ∀ q : Nat, s.heap.size ≤ q → A q := fun q h => by rw [← hAe]; exact Or.inr h
  have hS : va_S A s.heap s.heap [] := va_S.rf
  have hl := lv_entry ([.ref (aH 0), .int x1, .int x2]) (n := 5) (Nat.le_of_ble_eq_true rfl)
  rw [lg_entry_eq]
  generalize (lg_sl ([.ref (aH 0), .int x1, .int x2]) ++ List.replicate (5 - (lg_sl ([.ref (aH 0), .int x1, .int x2])).length) Slot.unset).toArray = ls at hl ⊢
  have hl : lv_has ls 5 [(0, .ref (aH 0)), (1, .int x1), (2, .int x2)] := hl
  generalize hR : f_HaulFlows_level VH0 VS0 NS0 LS0 LS6 LS7 VP1 LP1 x1 x2 = r0
  obtain ⟨H, locs, hHe, hle⟩ : ∃ (H : Heap) (locs : List Loc), s.heap = H ∧ [] = locs := ⟨_, _, rfl, rfl⟩
  have hP : va_P (dC, dI) vwCl (w_H cI cJ cZ aH VH0 aS aP aQ aT ++ w_S cI cJ cZ aS VS0 VS1 VS2 NS0 NS1 NS2 LS0 LS1 LS2 LS3 LS4 LS5 LS6 LS7 LS8 IS0 aY ++ w_Y cI cJ cZ aY VY0 LY0 LY1 LY2 IY0 ++ w_P cI cJ cZ aP VP0 VP1 VP2 NP0 LP0 LP1 LP2 LP3 LP4 IP0 IP1 aS ++ w_P cI cJ cZ aQ VQ0 VQ1 VQ2 NQ0 LQ0 LQ1 LQ2 LQ3 LQ4 IQ0 IQ1 aS ++ w_T cI cJ cZ aT VT0 NT0 NT1 LT0 IT0 aS) H := by rw [← hHe]; exact hP
  have hS : va_S A s.heap H locs := by rw [← hHe, ← hle]; exact hS
  refine hw_start hHe hle ?_
  unfold f_HaulFlows_level at hR
  refine lv_aload_n hx hb d_HaulFlows_level_0 rfl (lv_at hl 0 rfl) ?_
  refine va_get (D := (dC, dI)) (ci := 4) (v := .int (nI VH0)) (C := R_HaulFlows) (T := T_HaulFlows) (N := 5) hx hb hG in_HaulFlows hown hK hP 0 rfl rfl 4 (by decide) (hG _ m_200) (fun _ h9 => h9) rfl d_HaulFlows_level_1 ?_
  refine lv_iconst (v := nI 1) hx hb d_HaulFlows_level_4 (by decide) ?_
  refine hw_icmp_ne (tgt := 30) hx hb d_HaulFlows_level_5 (by decide) (by omega) (by omega) (fun c5 => ?_) (fun c5 => ?_)
  · replace hR := (if_neg c5).symm.trans hR
    refine lv_ldc2 (v := (-1)) hx hb hown (hG _ m_295) d_HaulFlows_level_30 ?_
    subst hR
    exact W.lret (v := (-1)) hx hb hr (fun t ht hW => ⟨⟨_, (), rfl, rfl, by rw [ht]; exact hP, va_K.moved hW.alike hK, hD⟩, hS.F ht⟩) hS.2.2 d_HaulFlows_level_33
  · replace hR := (if_pos c5).symm.trans hR
    obtain ⟨hpl0, hpl1⟩ := hpl c5
    refine lv_iload_n hx hb d_HaulFlows_level_8 rfl (lv_at hl 1 rfl) ?_
    refine lv_aload_n hx hb d_HaulFlows_level_9 rfl (lv_at hl 0 rfl) ?_
    refine va_get (D := (dC, dI)) (ci := 4) (v := .ref (aS 0)) (C := R_HaulFlows) (T := T_HaulFlows) (N := 5) hx hb hG in_HaulFlows hown hK hP 0 rfl rfl 0 (by decide) (hG _ m_196) (fun _ h9 => h9) rfl d_HaulFlows_level_10 ?_
    refine va_get (D := (dC, dI)) (ci := 2) (v := .int (nI VS0)) (C := R_Site) (T := T_Site) (N := 17) hx hb hG in_Site hown hK hP 1 rfl rfl 0 (by decide) (hG _ m_57) (fun _ h9 => h9) rfl d_HaulFlows_level_13 ?_
    obtain ⟨y16, hy16, hR⟩ := hw_bind hR
    have hM := c_HaulFlows_isBelow l dC dI cI cJ cZ H.size x1 (nI VS0)
    rw [hy16] at hM
    refine hw_callSi (As := [.int x1, .int (nI VS0)]) (rest := []) (wr := w_H cI cJ cZ aH VH0 aS aP aQ aT ++ w_S cI cJ cZ aS VS0 VS1 VS2 NS0 NS1 NS2 LS0 LS1 LS2 LS3 LS4 LS5 LS6 LS7 LS8 IS0 aY ++ w_Y cI cJ cZ aY VY0 LY0 LY1 LY2 IY0 ++ w_P cI cJ cZ aP VP0 VP1 VP2 NP0 LP0 LP1 LP2 LP3 LP4 IP0 IP1 aS ++ w_P cI cJ cZ aQ VQ0 VQ1 VQ2 NQ0 LQ0 LQ1 LQ2 LQ3 LQ4 IQ0 IQ1 aS ++ w_T cI cJ cZ aT VT0 NT0 NT1 LT0 IT0 aS) ⟨hx, hb, hml, hown, hG⟩ hM (hw_cwS 2 hG m_220 m_221 m_1 m_222 rfl rfl (by decide +kernel) ⟨Nat.le_of_ble_eq_true rfl, Nat.le_of_ble_eq_true rfl⟩) hK hP hD hS hA [] [0, 1, 2, 3, 4, 5, 6, 7, 8, 9, 10, 11, 12, 13, 14, 15, 16, 17, 18, 19, 20, 21, 22, 23, 24, 25, 26, 27, 28, 29, 30, 31, 32, 33, 34, 35, 36, 37, 38, 39, 40, 41, 42] rfl rfl (by decide) (by decide) (by decide) rfl hl.1 rfl (Nat.le_of_ble_eq_true rfl) d_HaulFlows_level_16 ⟨Nat.le_of_ble_eq_true rfl, Nat.le_of_ble_eq_true rfl⟩ (fun H locs hP hD hS => ?_)
    have hP : va_P (dC, dI) vwCl (w_H cI cJ cZ aH VH0 aS aP aQ aT ++ w_S cI cJ cZ aS VS0 VS1 VS2 NS0 NS1 NS2 LS0 LS1 LS2 LS3 LS4 LS5 LS6 LS7 LS8 IS0 aY ++ w_Y cI cJ cZ aY VY0 LY0 LY1 LY2 IY0 ++ w_P cI cJ cZ aP VP0 VP1 VP2 NP0 LP0 LP1 LP2 LP3 LP4 IP0 IP1 aS ++ w_P cI cJ cZ aQ VQ0 VQ1 VQ2 NQ0 LQ0 LQ1 LQ2 LQ3 LQ4 IQ0 IQ1 aS ++ w_T cI cJ cZ aT VT0 NT0 NT1 LT0 IT0 aS) H := hP
    have hD : va_D A (w_H cI cJ cZ aH VH0 aS aP aQ aT ++ w_S cI cJ cZ aS VS0 VS1 VS2 NS0 NS1 NS2 LS0 LS1 LS2 LS3 LS4 LS5 LS6 LS7 LS8 IS0 aY ++ w_Y cI cJ cZ aY VY0 LY0 LY1 LY2 IY0 ++ w_P cI cJ cZ aP VP0 VP1 VP2 NP0 LP0 LP1 LP2 LP3 LP4 IP0 IP1 aS ++ w_P cI cJ cZ aQ VQ0 VQ1 VQ2 NQ0 LQ0 LQ1 LQ2 LQ3 LQ4 IQ0 IQ1 aS ++ w_T cI cJ cZ aT VT0 NT0 NT1 LT0 IT0 aS) := hD
    have hbl16 := hp_below (x := x1) (n := VS0) (by omega)
    rw [hy16] at hbl16
    refine lv_if_eq (tgt := 30) hx hb d_HaulFlows_level_19 (by decide) (fun c19 => ?_) (fun c19 => ?_)
    · replace hR := (if_pos c19).symm.trans hR
      refine lv_ldc2 (v := (-1)) hx hb hown (hG _ m_295) d_HaulFlows_level_30 ?_
      subst hR
      exact W.lret (v := (-1)) hx hb hr (fun t ht hW => ⟨⟨_, (), rfl, rfl, by rw [ht]; exact hP, va_K.moved hW.alike hK, hD⟩, hS.F ht⟩) hS.2.2 d_HaulFlows_level_33
    · replace hR := (if_neg c19).symm.trans hR
      refine lv_iload_n hx hb d_HaulFlows_level_22 rfl (lv_at hl 2 rfl) ?_
      refine lv_iconst (v := nI 2) hx hb d_HaulFlows_level_23 (by decide) ?_
      obtain ⟨y24, hy24, hR⟩ := hw_bind hR
      have hM := c_HaulFlows_isBelow l dC dI cI cJ cZ H.size x2 (nI 2)
      rw [hy24] at hM
      refine hw_callSi (As := [.int x2, .int (nI 2)]) (rest := []) (wr := w_H cI cJ cZ aH VH0 aS aP aQ aT ++ w_S cI cJ cZ aS VS0 VS1 VS2 NS0 NS1 NS2 LS0 LS1 LS2 LS3 LS4 LS5 LS6 LS7 LS8 IS0 aY ++ w_Y cI cJ cZ aY VY0 LY0 LY1 LY2 IY0 ++ w_P cI cJ cZ aP VP0 VP1 VP2 NP0 LP0 LP1 LP2 LP3 LP4 IP0 IP1 aS ++ w_P cI cJ cZ aQ VQ0 VQ1 VQ2 NQ0 LQ0 LQ1 LQ2 LQ3 LQ4 IQ0 IQ1 aS ++ w_T cI cJ cZ aT VT0 NT0 NT1 LT0 IT0 aS) ⟨hx, hb, hml, hown, hG⟩ hM (hw_cwS 2 hG m_220 m_221 m_1 m_222 rfl rfl (by decide +kernel) ⟨Nat.le_of_ble_eq_true rfl, Nat.le_of_ble_eq_true rfl⟩) hK hP hD hS hA [] [0, 1, 2, 3, 4, 5, 6, 7, 8, 9, 10, 11, 12, 13, 14, 15, 16, 17, 18, 19, 20, 21, 22, 23, 24, 25, 26, 27, 28, 29, 30, 31, 32, 33, 34, 35, 36, 37, 38, 39, 40, 41, 42] rfl rfl (by decide) (by decide) (by decide) rfl hl.1 rfl (Nat.le_of_ble_eq_true rfl) d_HaulFlows_level_24 ⟨Nat.le_of_ble_eq_true rfl, Nat.le_of_ble_eq_true rfl⟩ (fun H locs hP hD hS => ?_)
      have hP : va_P (dC, dI) vwCl (w_H cI cJ cZ aH VH0 aS aP aQ aT ++ w_S cI cJ cZ aS VS0 VS1 VS2 NS0 NS1 NS2 LS0 LS1 LS2 LS3 LS4 LS5 LS6 LS7 LS8 IS0 aY ++ w_Y cI cJ cZ aY VY0 LY0 LY1 LY2 IY0 ++ w_P cI cJ cZ aP VP0 VP1 VP2 NP0 LP0 LP1 LP2 LP3 LP4 IP0 IP1 aS ++ w_P cI cJ cZ aQ VQ0 VQ1 VQ2 NQ0 LQ0 LQ1 LQ2 LQ3 LQ4 IQ0 IQ1 aS ++ w_T cI cJ cZ aT VT0 NT0 NT1 LT0 IT0 aS) H := hP
      have hD : va_D A (w_H cI cJ cZ aH VH0 aS aP aQ aT ++ w_S cI cJ cZ aS VS0 VS1 VS2 NS0 NS1 NS2 LS0 LS1 LS2 LS3 LS4 LS5 LS6 LS7 LS8 IS0 aY ++ w_Y cI cJ cZ aY VY0 LY0 LY1 LY2 IY0 ++ w_P cI cJ cZ aP VP0 VP1 VP2 NP0 LP0 LP1 LP2 LP3 LP4 IP0 IP1 aS ++ w_P cI cJ cZ aQ VQ0 VQ1 VQ2 NQ0 LQ0 LQ1 LQ2 LQ3 LQ4 IQ0 IQ1 aS ++ w_T cI cJ cZ aT VT0 NT0 NT1 LT0 IT0 aS) := hD
      have hbl24 := hp_below (x := x2) (n := 2) (by omega)
      rw [hy24] at hbl24
      refine lv_if_ne (tgt := 34) hx hb d_HaulFlows_level_27 (by decide) (fun c27 => ?_) (fun c27 => ?_)
      · replace hR := (if_neg c27).symm.trans hR
        obtain ⟨hna1, hnb1⟩ := hbl16 c19
        have en34_1 : nI (x1.toNatClampNeg) = x1 := hw_nat hna1
        have hl : lv_has ls 5 [(0, .ref (aH 0)), (1, .int (nI x1.toNatClampNeg)), (2, .int x2)] := by rw [en34_1]; exact hl
        refine lv_aload_n hx hb d_HaulFlows_level_34 rfl (lv_at hl 0 rfl) ?_
        refine va_get (D := (dC, dI)) (ci := 4) (v := .ref (aS 0)) (C := R_HaulFlows) (T := T_HaulFlows) (N := 5) hx hb hG in_HaulFlows hown hK hP 0 rfl rfl 0 (by decide) (hG _ m_196) (fun _ h9 => h9) rfl d_HaulFlows_level_35 ?_
        refine lv_iload_n hx hb d_HaulFlows_level_38 rfl (lv_at hl 1 rfl) ?_
        obtain ⟨y39, hy39, hR⟩ := hw_bind hR
        have hM := c_Site_gives l dC dI cI cJ cZ H.size aS VS0 VS1 VS2 NS0 NS1 NS2 LS0 LS1 LS2 LS3 LS4 LS5 LS6 LS7 LS8 IS0 aY VY0 LY0 LY1 LY2 IY0 x1.toNatClampNeg (by first | assumption | omega) (by first | assumption | omega)
        rw [hy39] at hM
        refine hw_callVl (As := [.int (nI x1.toNatClampNeg)]) (rest := []) (wr := w_H cI cJ cZ aH VH0 aS aP aQ aT ++ w_P cI cJ cZ aP VP0 VP1 VP2 NP0 LP0 LP1 LP2 LP3 LP4 IP0 IP1 aS ++ w_P cI cJ cZ aQ VQ0 VQ1 VQ2 NQ0 LQ0 LQ1 LQ2 LQ3 LQ4 IQ0 IQ1 aS ++ w_T cI cJ cZ aT VT0 NT0 NT1 LT0 IT0 aS) ⟨hx, hb, hml, hown, hG⟩ hM (hw_cwV 1 hG m_356 m_357 m_358 m_2 m_359 rfl rfl (by decide +kernel) ⟨Nat.le_of_ble_eq_true rfl, Nat.le_of_ble_eq_true rfl⟩) hK hP hD hS hA [1, 2, 3, 4, 5, 6, 7, 8, 9, 10, 11, 12, 13, 14, 15, 16, 17, 18, 19] [0, 20, 21, 22, 23, 24, 25, 26, 27, 28, 29, 30, 31, 32, 33, 34, 35, 36, 37, 38, 39, 40, 41, 42] rfl rfl (by decide) (by decide) (by decide) (hw_recv hK hP 1 rfl rfl) rfl hl.1 rfl (Nat.le_of_ble_eq_true rfl) d_HaulFlows_level_39 ⟨Nat.le_of_ble_eq_true rfl, Nat.le_of_ble_eq_true rfl⟩ (fun H locs hP hD hS => ?_)
        have hP : va_P (dC, dI) vwCl (w_H cI cJ cZ aH VH0 aS aP aQ aT ++ w_S cI cJ cZ aS VS0 VS1 VS2 NS0 NS1 NS2 LS0 LS1 LS2 LS3 LS4 LS5 LS6 LS7 LS8 IS0 aY ++ w_Y cI cJ cZ aY VY0 LY0 LY1 LY2 IY0 ++ w_P cI cJ cZ aP VP0 VP1 VP2 NP0 LP0 LP1 LP2 LP3 LP4 IP0 IP1 aS ++ w_P cI cJ cZ aQ VQ0 VQ1 VQ2 NQ0 LQ0 LQ1 LQ2 LQ3 LQ4 IQ0 IQ1 aS ++ w_T cI cJ cZ aT VT0 NT0 NT1 LT0 IT0 aS) H := hP.sub [0, 24, 25, 26, 27, 28, 29, 30, 31, 32, 33, 34, 35, 36, 37, 38, 39, 40, 41, 42, 1, 2, 3, 4, 5, 6, 7, 8, 9, 10, 11, 12, 13, 14, 15, 16, 17, 18, 19, 20, 21, 22, 23] rfl
        have hD : va_D A (w_H cI cJ cZ aH VH0 aS aP aQ aT ++ w_S cI cJ cZ aS VS0 VS1 VS2 NS0 NS1 NS2 LS0 LS1 LS2 LS3 LS4 LS5 LS6 LS7 LS8 IS0 aY ++ w_Y cI cJ cZ aY VY0 LY0 LY1 LY2 IY0 ++ w_P cI cJ cZ aP VP0 VP1 VP2 NP0 LP0 LP1 LP2 LP3 LP4 IP0 IP1 aS ++ w_P cI cJ cZ aQ VQ0 VQ1 VQ2 NQ0 LQ0 LQ1 LQ2 LQ3 LQ4 IQ0 IQ1 aS ++ w_T cI cJ cZ aT VT0 NT0 NT1 LT0 IT0 aS) := hD.sub [0, 24, 25, 26, 27, 28, 29, 30, 31, 32, 33, 34, 35, 36, 37, 38, 39, 40, 41, 42, 1, 2, 3, 4, 5, 6, 7, 8, 9, 10, 11, 12, 13, 14, 15, 16, 17, 18, 19, 20, 21, 22, 23] (by decide) rfl
        refine lv_lstore_n (lv' := [(3, .long y39), (0, .ref (aH 0)), (1, .int (nI x1.toNatClampNeg)), (2, .int x2)]) hx hb d_HaulFlows_level_42 rfl hl (by decide) rfl (fun ls hl => ?_)
        refine lv_iload_n hx hb d_HaulFlows_level_43 rfl (lv_at hl 3 rfl) ?_
        refine lv_if_ne (tgt := 63) hx hb d_HaulFlows_level_44 (by decide) (fun c44 => ?_) (fun c44 => ?_)
        · replace hR := (if_neg c44).symm.trans hR
          refine lv_lload_n hx hb d_HaulFlows_level_63 rfl (lv_at hl 0 rfl) ?_
          subst hR
          exact W.lret (v := y39) hx hb hr (fun t ht hW => ⟨⟨_, (), rfl, rfl, by rw [ht]; exact hP, va_K.moved hW.alike hK, hD⟩, hS.F ht⟩) hS.2.2 d_HaulFlows_level_64
        · replace hR := (if_pos c44).symm.trans hR
          refine lv_lload_n hx hb d_HaulFlows_level_47 rfl (lv_at hl 0 rfl) ?_
          refine lv_aload_n hx hb d_HaulFlows_level_48 rfl (lv_at hl 1 rfl) ?_
          refine va_get (D := (dC, dI)) (ci := 4) (v := .ref (aP 0)) (C := R_HaulFlows) (T := T_HaulFlows) (N := 5) hx hb hG in_HaulFlows hown hK hP 0 rfl rfl 1 (by decide) (hG _ m_197) (fun _ h9 => h9) rfl d_HaulFlows_level_49 ?_
          refine lv_iload_n hx hb d_HaulFlows_level_52 rfl (lv_at hl 2 rfl) ?_
          refine lv_iload_n hx hb d_HaulFlows_level_53 rfl (lv_at hl 2 rfl) ?_
          refine lv_iconst (v := nI 1) hx hb d_HaulFlows_level_54 (by decide) ?_
          refine hw_iadd hx hb d_HaulFlows_level_55 ?_
          obtain ⟨y56, hy56, hR⟩ := hw_bind hR
          have hM := c_Plan_amountFrom l dC dI cI cJ cZ H.size aP VP0 VP1 VP2 NP0 LP0 LP1 LP2 LP3 LP4 IP0 IP1 aS VS0 VS1 VS2 NS0 NS1 NS2 LS0 LS1 LS2 LS3 LS4 LS5 LS6 LS7 LS8 IS0 aY VY0 LY0 LY1 LY2 IY0 x1.toNatClampNeg (x1.toNatClampNeg + 1) (by first | assumption | omega) (by first | assumption | omega) (by first | assumption | omega)
          rw [hy56] at hM
          refine hw_callVl (As := [.int (nI x1.toNatClampNeg), .int (nI (x1.toNatClampNeg + 1))]) (rest := [.long y39]) (wr := w_H cI cJ cZ aH VH0 aS aP aQ aT ++ w_P cI cJ cZ aQ VQ0 VQ1 VQ2 NQ0 LQ0 LQ1 LQ2 LQ3 LQ4 IQ0 IQ1 aS ++ w_T cI cJ cZ aT VT0 NT0 NT1 LT0 IT0 aS) ⟨hx, hb, hml, hown, hG⟩ hM (hw_cwV 2 hG m_313 m_314 m_315 m_5 m_316 rfl rfl (by decide +kernel) ⟨Nat.le_of_ble_eq_true rfl, Nat.le_of_ble_eq_true rfl⟩) hK hP hD hS hA [20, 21, 22, 23, 24, 25, 26, 27, 28, 1, 2, 3, 4, 5, 6, 7, 8, 9, 10, 11, 12, 13, 14, 15, 16, 17, 18, 19] [0, 29, 30, 31, 32, 33, 34, 35, 36, 37, 38, 39, 40, 41, 42] rfl rfl (by decide) (by decide) (by decide) (hw_recv hK hP 20 rfl rfl) rfl hl.1 rfl (Nat.le_of_ble_eq_true rfl) d_HaulFlows_level_56 ⟨Nat.le_of_ble_eq_true rfl, Nat.le_of_ble_eq_true rfl⟩ (fun H locs hP hD hS => ?_)
          have hP : va_P (dC, dI) vwCl (w_H cI cJ cZ aH VH0 aS aP aQ aT ++ w_S cI cJ cZ aS VS0 VS1 VS2 NS0 NS1 NS2 LS0 LS1 LS2 LS3 LS4 LS5 LS6 LS7 LS8 IS0 aY ++ w_Y cI cJ cZ aY VY0 LY0 LY1 LY2 IY0 ++ w_P cI cJ cZ aP VP0 VP1 VP2 NP0 LP0 LP1 LP2 LP3 LP4 IP0 IP1 aS ++ w_P cI cJ cZ aQ VQ0 VQ1 VQ2 NQ0 LQ0 LQ1 LQ2 LQ3 LQ4 IQ0 IQ1 aS ++ w_T cI cJ cZ aT VT0 NT0 NT1 LT0 IT0 aS) H := hP.sub [0, 24, 25, 26, 27, 28, 29, 30, 31, 32, 33, 34, 35, 36, 37, 38, 39, 40, 41, 42, 15, 16, 17, 18, 19, 20, 21, 22, 23, 1, 2, 3, 4, 5, 6, 7, 8, 9, 10, 11, 12, 13, 14] rfl
          have hD : va_D A (w_H cI cJ cZ aH VH0 aS aP aQ aT ++ w_S cI cJ cZ aS VS0 VS1 VS2 NS0 NS1 NS2 LS0 LS1 LS2 LS3 LS4 LS5 LS6 LS7 LS8 IS0 aY ++ w_Y cI cJ cZ aY VY0 LY0 LY1 LY2 IY0 ++ w_P cI cJ cZ aP VP0 VP1 VP2 NP0 LP0 LP1 LP2 LP3 LP4 IP0 IP1 aS ++ w_P cI cJ cZ aQ VQ0 VQ1 VQ2 NQ0 LQ0 LQ1 LQ2 LQ3 LQ4 IQ0 IQ1 aS ++ w_T cI cJ cZ aT VT0 NT0 NT1 LT0 IT0 aS) := hD.sub [0, 24, 25, 26, 27, 28, 29, 30, 31, 32, 33, 34, 35, 36, 37, 38, 39, 40, 41, 42, 15, 16, 17, 18, 19, 20, 21, 22, 23, 1, 2, 3, 4, 5, 6, 7, 8, 9, 10, 11, 12, 13, 14] (by decide) rfl
          refine lv_lsub hx hb d_HaulFlows_level_59 ?_
          refine lv_goto (tgt := 64) hx hb d_HaulFlows_level_60 (by decide) ?_
          subst hR
          exact W.lret (v := y39 - y56) hx hb hr (fun t ht hW => ⟨⟨_, (), rfl, rfl, by rw [ht]; exact hP, va_K.moved hW.alike hK, hD⟩, hS.F ht⟩) hS.2.2 d_HaulFlows_level_64
      · replace hR := (if_pos c27).symm.trans hR
        refine lv_ldc2 (v := (-1)) hx hb hown (hG _ m_295) d_HaulFlows_level_30 ?_
        subst hR
        exact W.lret (v := (-1)) hx hb hr (fun t ht hW => ⟨⟨_, (), rfl, rfl, by rw [ht]; exact hP, va_K.moved hW.alike hK, hD⟩, hS.F ht⟩) hS.2.2 d_HaulFlows_level_33
