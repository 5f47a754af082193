abbrev b_Model_run : ByteArray := prog_7_method_25_code
def y_Model_run : MethodName := ⟨R_Model, "run", "(I)I"⟩
def u_Model_run : List Cond := Cond.code y_Model_run b_Model_run 5 (some .int) :: wG
theorem d_Model_run_0 : decode b_Model_run 0 = .ok (.aload_n 0, 1) := by decide +kernel
theorem d_Model_run_1 : decode b_Model_run 1 = .ok (.aload_n 0, 1) := by decide +kernel
theorem d_Model_run_2 : decode b_Model_run 2 = .ok (.getfield 99, 3) := by decide +kernel
theorem d_Model_run_5 : decode b_Model_run 5 = .ok (.aload_n 0, 1) := by decide +kernel
theorem d_Model_run_6 : decode b_Model_run 6 = .ok (.getfield 113, 3) := by decide +kernel
theorem d_Model_run_9 : decode b_Model_run 9 = .ok (.iadd, 1) := by decide +kernel
theorem d_Model_run_10 : decode b_Model_run 10 = .ok (.aload_n 0, 1) := by decide +kernel
theorem d_Model_run_11 : decode b_Model_run 11 = .ok (.getfield 105, 3) := by decide +kernel
theorem d_Model_run_14 : decode b_Model_run 14 = .ok (.imul, 1) := by decide +kernel
theorem d_Model_run_15 : decode b_Model_run 15 = .ok (.iload_n 1, 1) := by decide +kernel
theorem d_Model_run_16 : decode b_Model_run 16 = .ok (.if_icmp .le 7, 3) := by decide +kernel
theorem d_Model_run_19 : decode b_Model_run 19 = .ok (.iconst 1, 1) := by decide +kernel
theorem d_Model_run_20 : decode b_Model_run 20 = .ok (.goto 4, 3) := by decide +kernel
theorem d_Model_run_23 : decode b_Model_run 23 = .ok (.iconst 0, 1) := by decide +kernel
theorem d_Model_run_24 : decode b_Model_run 24 = .ok (.putfield 83, 3) := by decide +kernel
theorem d_Model_run_27 : decode b_Model_run 27 = .ok (.aload_n 0, 1) := by decide +kernel
theorem d_Model_run_28 : decode b_Model_run 28 = .ok (.getfield 83, 3) := by decide +kernel
theorem d_Model_run_31 : decode b_Model_run 31 = .ok (.ifCond .le 5, 3) := by decide +kernel
theorem d_Model_run_34 : decode b_Model_run 34 = .ok (.iconst 0, 1) := by decide +kernel
theorem d_Model_run_35 : decode b_Model_run 35 = .ok (.ireturn, 1) := by decide +kernel
theorem d_Model_run_36 : decode b_Model_run 36 = .ok (.aload_n 0, 1) := by decide +kernel
theorem d_Model_run_37 : decode b_Model_run 37 = .ok (.bipush (-2), 2) := by decide +kernel
theorem d_Model_run_39 : decode b_Model_run 39 = .ok (.bipush (-2), 2) := by decide +kernel
theorem d_Model_run_41 : decode b_Model_run 41 = .ok (.lconst 0, 1) := by decide +kernel
theorem d_Model_run_42 : decode b_Model_run 42 = .ok (.bipush (-2), 2) := by decide +kernel
theorem d_Model_run_44 : decode b_Model_run 44 = .ok (.invokevirtual 150, 3) := by decide +kernel
theorem d_Model_run_47 : decode b_Model_run 47 = .ok (.aload_n 0, 1) := by decide +kernel
theorem d_Model_run_48 : decode b_Model_run 48 = .ok (.invokevirtual 154, 3) := by decide +kernel
theorem d_Model_run_51 : decode b_Model_run 51 = .ok (.lstore_n 2, 1) := by decide +kernel
theorem d_Model_run_52 : decode b_Model_run 52 = .ok (.lload_n 2, 1) := by decide +kernel
theorem d_Model_run_53 : decode b_Model_run 53 = .ok (.aload_n 0, 1) := by decide +kernel
theorem d_Model_run_54 : decode b_Model_run 54 = .ok (.invokevirtual 158, 3) := by decide +kernel
theorem d_Model_run_57 : decode b_Model_run 57 = .ok (.lcmp, 1) := by decide +kernel
theorem d_Model_run_58 : decode b_Model_run 58 = .ok (.ifCond .ne 22, 3) := by decide +kernel
theorem d_Model_run_61 : decode b_Model_run 61 = .ok (.aload_n 0, 1) := by decide +kernel
theorem d_Model_run_62 : decode b_Model_run 62 = .ok (.aload_n 0, 1) := by decide +kernel
theorem d_Model_run_63 : decode b_Model_run 63 = .ok (.invokevirtual 161, 3) := by decide +kernel
theorem d_Model_run_66 : decode b_Model_run 66 = .ok (.putfield 164, 3) := by decide +kernel
theorem d_Model_run_69 : decode b_Model_run 69 = .ok (.aload_n 0, 1) := by decide +kernel
theorem d_Model_run_70 : decode b_Model_run 70 = .ok (.invokevirtual 168, 3) := by decide +kernel
theorem d_Model_run_73 : decode b_Model_run 73 = .ok (.aload_n 0, 1) := by decide +kernel
theorem d_Model_run_74 : decode b_Model_run 74 = .ok (.iconst 1, 1) := by decide +kernel
theorem d_Model_run_75 : decode b_Model_run 75 = .ok (.putfield 102, 3) := by decide +kernel
theorem d_Model_run_78 : decode b_Model_run 78 = .ok (.iconst 0, 1) := by decide +kernel
theorem d_Model_run_79 : decode b_Model_run 79 = .ok (.ireturn, 1) := by decide +kernel
theorem d_Model_run_80 : decode b_Model_run 80 = .ok (.iconst 0, 1) := by decide +kernel
theorem d_Model_run_81 : decode b_Model_run 81 = .ok (.istore 4, 2) := by decide +kernel
theorem d_Model_run_83 : decode b_Model_run 83 = .ok (.iload 4, 2) := by decide +kernel
theorem d_Model_run_85 : decode b_Model_run 85 = .ok (.aload_n 0, 1) := by decide +kernel
theorem d_Model_run_86 : decode b_Model_run 86 = .ok (.getfield 105, 3) := by decide +kernel
theorem d_Model_run_89 : decode b_Model_run 89 = .ok (.if_icmp .ge 43, 3) := by decide +kernel
theorem d_Model_run_92 : decode b_Model_run 92 = .ok (.aload_n 0, 1) := by decide +kernel
theorem d_Model_run_93 : decode b_Model_run 93 = .ok (.bipush (-2), 2) := by decide +kernel
theorem d_Model_run_95 : decode b_Model_run 95 = .ok (.iload 4, 2) := by decide +kernel
theorem d_Model_run_97 : decode b_Model_run 97 = .ok (.ldc2_w 171, 3) := by decide +kernel
theorem d_Model_run_100 : decode b_Model_run 100 = .ok (.bipush (-2), 2) := by decide +kernel
theorem d_Model_run_102 : decode b_Model_run 102 = .ok (.invokevirtual 150, 3) := by decide +kernel
theorem d_Model_run_105 : decode b_Model_run 105 = .ok (.aload_n 0, 1) := by decide +kernel
theorem d_Model_run_106 : decode b_Model_run 106 = .ok (.getfield 66, 3) := by decide +kernel
theorem d_Model_run_109 : decode b_Model_run 109 = .ok (.iload 4, 2) := by decide +kernel
theorem d_Model_run_111 : decode b_Model_run 111 = .ok (.aload_n 0, 1) := by decide +kernel
theorem d_Model_run_112 : decode b_Model_run 112 = .ok (.invokevirtual 154, 3) := by decide +kernel
theorem d_Model_run_115 : decode b_Model_run 115 = .ok (.lload_n 2, 1) := by decide +kernel
theorem d_Model_run_116 : decode b_Model_run 116 = .ok (.lcmp, 1) := by decide +kernel
theorem d_Model_run_117 : decode b_Model_run 117 = .ok (.ifCond .ne 7, 3) := by decide +kernel
theorem d_Model_run_120 : decode b_Model_run 120 = .ok (.iconst 1, 1) := by decide +kernel
theorem d_Model_run_121 : decode b_Model_run 121 = .ok (.goto 4, 3) := by decide +kernel
theorem d_Model_run_124 : decode b_Model_run 124 = .ok (.iconst 0, 1) := by decide +kernel
theorem d_Model_run_125 : decode b_Model_run 125 = .ok (.bastore, 1) := by decide +kernel
theorem d_Model_run_126 : decode b_Model_run 126 = .ok (.iinc 4 1, 3) := by decide +kernel
theorem d_Model_run_129 : decode b_Model_run 129 = .ok (.goto (-46), 3) := by decide +kernel
theorem d_Model_run_132 : decode b_Model_run 132 = .ok (.aload_n 0, 1) := by decide +kernel
theorem d_Model_run_133 : decode b_Model_run 133 = .ok (.iconst 2, 1) := by decide +kernel
theorem d_Model_run_134 : decode b_Model_run 134 = .ok (.putfield 102, 3) := by decide +kernel
theorem d_Model_run_137 : decode b_Model_run 137 = .ok (.iconst 1, 1) := by decide +kernel
theorem d_Model_run_138 : decode b_Model_run 138 = .ok (.ireturn, 1) := by decide +kernel
abbrev b_Model_differs : ByteArray := prog_7_method_28_code
def y_Model_differs : MethodName := ⟨R_Model, "differs", "(JI)J"⟩
def u_Model_differs : List Cond := Cond.code y_Model_differs b_Model_differs 5 (some .long) :: wG
theorem d_Model_differs_0 : decode b_Model_differs 0 = .ok (.aload_n 0, 1) := by decide +kernel
theorem d_Model_differs_1 : decode b_Model_differs 1 = .ok (.invokevirtual 154, 3) := by decide +kernel
theorem d_Model_differs_4 : decode b_Model_differs 4 = .ok (.lload_n 1, 1) := by decide +kernel
theorem d_Model_differs_5 : decode b_Model_differs 5 = .ok (.lcmp, 1) := by decide +kernel
theorem d_Model_differs_6 : decode b_Model_differs 6 = .ok (.ifCond .ne 7, 3) := by decide +kernel
theorem d_Model_differs_9 : decode b_Model_differs 9 = .ok (.iconst 1, 1) := by decide +kernel
theorem d_Model_differs_10 : decode b_Model_differs 10 = .ok (.goto 4, 3) := by decide +kernel
theorem d_Model_differs_13 : decode b_Model_differs 13 = .ok (.iconst 0, 1) := by decide +kernel
theorem d_Model_differs_14 : decode b_Model_differs 14 = .ok (.istore 4, 2) := by decide +kernel
theorem d_Model_differs_16 : decode b_Model_differs 16 = .ok (.iload_n 3, 1) := by decide +kernel
theorem d_Model_differs_17 : decode b_Model_differs 17 = .ok (.iconst 1, 1) := by decide +kernel
theorem d_Model_differs_18 : decode b_Model_differs 18 = .ok (.if_icmp .ne 16, 3) := by decide +kernel
theorem d_Model_differs_21 : decode b_Model_differs 21 = .ok (.iload 4, 2) := by decide +kernel
theorem d_Model_differs_23 : decode b_Model_differs 23 = .ok (.ifCond .eq 7, 3) := by decide +kernel
theorem d_Model_differs_26 : decode b_Model_differs 26 = .ok (.lconst 1, 1) := by decide +kernel
theorem d_Model_differs_27 : decode b_Model_differs 27 = .ok (.goto 25, 3) := by decide +kernel
theorem d_Model_differs_30 : decode b_Model_differs 30 = .ok (.lconst 0, 1) := by decide +kernel
theorem d_Model_differs_31 : decode b_Model_differs 31 = .ok (.goto 21, 3) := by decide +kernel
theorem d_Model_differs_34 : decode b_Model_differs 34 = .ok (.iload 4, 2) := by decide +kernel
theorem d_Model_differs_36 : decode b_Model_differs 36 = .ok (.ifCond .eq 15, 3) := by decide +kernel
theorem d_Model_differs_39 : decode b_Model_differs 39 = .ok (.aload_n 0, 1) := by decide +kernel
theorem d_Model_differs_40 : decode b_Model_differs 40 = .ok (.invokevirtual 161, 3) := by decide +kernel
theorem d_Model_differs_43 : decode b_Model_differs 43 = .ok (.aload_n 0, 1) := by decide +kernel
theorem d_Model_differs_44 : decode b_Model_differs 44 = .ok (.getfield 164, 3) := by decide +kernel
theorem d_Model_differs_47 : decode b_Model_differs 47 = .ok (.lsub, 1) := by decide +kernel
theorem d_Model_differs_48 : decode b_Model_differs 48 = .ok (.goto 4, 3) := by decide +kernel
theorem d_Model_differs_51 : decode b_Model_differs 51 = .ok (.lconst 0, 1) := by decide +kernel
theorem d_Model_differs_52 : decode b_Model_differs 52 = .ok (.lreturn, 1) := by decide +kernel
abbrev b_Model_closure : ByteArray := prog_7_method_31_code
def y_Model_closure : MethodName := ⟨R_Model, "closure", "(II)J"⟩
def u_Model_closure : List Cond := Cond.code y_Model_closure b_Model_closure 3 (some .long) :: wG
theorem d_Model_closure_0 : decode b_Model_closure 0 = .ok (.aload_n 0, 1) := by decide +kernel
theorem d_Model_closure_1 : decode b_Model_closure 1 = .ok (.iconst 0, 1) := by decide +kernel
theorem d_Model_closure_2 : decode b_Model_closure 2 = .ok (.putfield 83, 3) := by decide +kernel
theorem d_Model_closure_5 : decode b_Model_closure 5 = .ok (.aload_n 0, 1) := by decide +kernel
theorem d_Model_closure_6 : decode b_Model_closure 6 = .ok (.getfield 102, 3) := by decide +kernel
theorem d_Model_closure_9 : decode b_Model_closure 9 = .ok (.iconst 1, 1) := by decide +kernel
theorem d_Model_closure_10 : decode b_Model_closure 10 = .ok (.if_icmp .ne 29, 3) := by decide +kernel
theorem d_Model_closure_13 : decode b_Model_closure 13 = .ok (.iload_n 1, 1) := by decide +kernel
theorem d_Model_closure_14 : decode b_Model_closure 14 = .ok (.i2l, 1) := by decide +kernel
theorem d_Model_closure_15 : decode b_Model_closure 15 = .ok (.lconst 0, 1) := by decide +kernel
theorem d_Model_closure_16 : decode b_Model_closure 16 = .ok (.aload_n 0, 1) := by decide +kernel
theorem d_Model_closure_17 : decode b_Model_closure 17 = .ok (.getfield 110, 3) := by decide +kernel
theorem d_Model_closure_20 : decode b_Model_closure 20 = .ok (.i2l, 1) := by decide +kernel
theorem d_Model_closure_21 : decode b_Model_closure 21 = .ok (.lconst 1, 1) := by decide +kernel
theorem d_Model_closure_22 : decode b_Model_closure 22 = .ok (.lsub, 1) := by decide +kernel
theorem d_Model_closure_23 : decode b_Model_closure 23 = .ok (.invokestatic 89, 3) := by decide +kernel
theorem d_Model_closure_26 : decode b_Model_closure 26 = .ok (.ifCond .eq 13, 3) := by decide +kernel
theorem d_Model_closure_29 : decode b_Model_closure 29 = .ok (.iload_n 2, 1) := by decide +kernel
theorem d_Model_closure_30 : decode b_Model_closure 30 = .ok (.i2l, 1) := by decide +kernel
theorem d_Model_closure_31 : decode b_Model_closure 31 = .ok (.lconst 0, 1) := by decide +kernel
theorem d_Model_closure_32 : decode b_Model_closure 32 = .ok (.lconst 1, 1) := by decide +kernel
theorem d_Model_closure_33 : decode b_Model_closure 33 = .ok (.invokestatic 89, 3) := by decide +kernel
theorem d_Model_closure_36 : decode b_Model_closure 36 = .ok (.ifCond .ne 7, 3) := by decide +kernel
theorem d_Model_closure_39 : decode b_Model_closure 39 = .ok (.ldc2_w 171, 3) := by decide +kernel
theorem d_Model_closure_42 : decode b_Model_closure 42 = .ok (.lreturn, 1) := by decide +kernel
theorem d_Model_closure_43 : decode b_Model_closure 43 = .ok (.aload_n 0, 1) := by decide +kernel
theorem d_Model_closure_44 : decode b_Model_closure 44 = .ok (.bipush (-2), 2) := by decide +kernel
theorem d_Model_closure_46 : decode b_Model_closure 46 = .ok (.bipush (-2), 2) := by decide +kernel
theorem d_Model_closure_48 : decode b_Model_closure 48 = .ok (.lconst 0, 1) := by decide +kernel
theorem d_Model_closure_49 : decode b_Model_closure 49 = .ok (.iload_n 1, 1) := by decide +kernel
theorem d_Model_closure_50 : decode b_Model_closure 50 = .ok (.invokevirtual 150, 3) := by decide +kernel
theorem d_Model_closure_53 : decode b_Model_closure 53 = .ok (.aload_n 0, 1) := by decide +kernel
theorem d_Model_closure_54 : decode b_Model_closure 54 = .ok (.aload_n 0, 1) := by decide +kernel
theorem d_Model_closure_55 : decode b_Model_closure 55 = .ok (.invokevirtual 158, 3) := by decide +kernel
theorem d_Model_closure_58 : decode b_Model_closure 58 = .ok (.iload_n 2, 1) := by decide +kernel
theorem d_Model_closure_59 : decode b_Model_closure 59 = .ok (.invokevirtual 175, 3) := by decide +kernel
theorem d_Model_closure_62 : decode b_Model_closure 62 = .ok (.lreturn, 1) := by decide +kernel
abbrev b_Model_dual : ByteArray := prog_7_method_29_code
def y_Model_dual : MethodName := ⟨R_Model, "dual", "(III)J"⟩
def u_Model_dual : List Cond := Cond.code y_Model_dual b_Model_dual 5 (some .long) :: wG
theorem d_Model_dual_0 : decode b_Model_dual 0 = .ok (.aload_n 0, 1) := by decide +kernel
theorem d_Model_dual_1 : decode b_Model_dual 1 = .ok (.iconst 0, 1) := by decide +kernel
theorem d_Model_dual_2 : decode b_Model_dual 2 = .ok (.putfield 83, 3) := by decide +kernel
theorem d_Model_dual_5 : decode b_Model_dual 5 = .ok (.aload_n 0, 1) := by decide +kernel
theorem d_Model_dual_6 : decode b_Model_dual 6 = .ok (.getfield 102, 3) := by decide +kernel
theorem d_Model_dual_9 : decode b_Model_dual 9 = .ok (.iconst 1, 1) := by decide +kernel
theorem d_Model_dual_10 : decode b_Model_dual 10 = .ok (.if_icmp .ne 58, 3) := by decide +kernel
theorem d_Model_dual_13 : decode b_Model_dual 13 = .ok (.iload_n 3, 1) := by decide +kernel
theorem d_Model_dual_14 : decode b_Model_dual 14 = .ok (.i2l, 1) := by decide +kernel
theorem d_Model_dual_15 : decode b_Model_dual 15 = .ok (.lconst 0, 1) := by decide +kernel
theorem d_Model_dual_16 : decode b_Model_dual 16 = .ok (.lconst 1, 1) := by decide +kernel
theorem d_Model_dual_17 : decode b_Model_dual 17 = .ok (.invokestatic 89, 3) := by decide +kernel
theorem d_Model_dual_20 : decode b_Model_dual 20 = .ok (.ifCond .eq 48, 3) := by decide +kernel
theorem d_Model_dual_23 : decode b_Model_dual 23 = .ok (.iload_n 1, 1) := by decide +kernel
theorem d_Model_dual_24 : decode b_Model_dual 24 = .ok (.ifCond .ne 19, 3) := by decide +kernel
theorem d_Model_dual_27 : decode b_Model_dual 27 = .ok (.iload_n 2, 1) := by decide +kernel
theorem d_Model_dual_28 : decode b_Model_dual 28 = .ok (.i2l, 1) := by decide +kernel
theorem d_Model_dual_29 : decode b_Model_dual 29 = .ok (.lconst 0, 1) := by decide +kernel
theorem d_Model_dual_30 : decode b_Model_dual 30 = .ok (.aload_n 0, 1) := by decide +kernel
theorem d_Model_dual_31 : decode b_Model_dual 31 = .ok (.getfield 99, 3) := by decide +kernel
theorem d_Model_dual_34 : decode b_Model_dual 34 = .ok (.i2l, 1) := by decide +kernel
theorem d_Model_dual_35 : decode b_Model_dual 35 = .ok (.lconst 1, 1) := by decide +kernel
theorem d_Model_dual_36 : decode b_Model_dual 36 = .ok (.lsub, 1) := by decide +kernel
theorem d_Model_dual_37 : decode b_Model_dual 37 = .ok (.invokestatic 89, 3) := by decide +kernel
theorem d_Model_dual_40 : decode b_Model_dual 40 = .ok (.ifCond .ne 24, 3) := by decide +kernel
theorem d_Model_dual_43 : decode b_Model_dual 43 = .ok (.iload_n 1, 1) := by decide +kernel
theorem d_Model_dual_44 : decode b_Model_dual 44 = .ok (.iconst 1, 1) := by decide +kernel
theorem d_Model_dual_45 : decode b_Model_dual 45 = .ok (.if_icmp .ne 23, 3) := by decide +kernel
theorem d_Model_dual_48 : decode b_Model_dual 48 = .ok (.iload_n 2, 1) := by decide +kernel
theorem d_Model_dual_49 : decode b_Model_dual 49 = .ok (.i2l, 1) := by decide +kernel
theorem d_Model_dual_50 : decode b_Model_dual 50 = .ok (.lconst 0, 1) := by decide +kernel
theorem d_Model_dual_51 : decode b_Model_dual 51 = .ok (.aload_n 0, 1) := by decide +kernel
theorem d_Model_dual_52 : decode b_Model_dual 52 = .ok (.getfield 105, 3) := by decide +kernel
theorem d_Model_dual_55 : decode b_Model_dual 55 = .ok (.i2l, 1) := by decide +kernel
theorem d_Model_dual_56 : decode b_Model_dual 56 = .ok (.lconst 1, 1) := by decide +kernel
theorem d_Model_dual_57 : decode b_Model_dual 57 = .ok (.lsub, 1) := by decide +kernel
theorem d_Model_dual_58 : decode b_Model_dual 58 = .ok (.invokestatic 89, 3) := by decide +kernel
theorem d_Model_dual_61 : decode b_Model_dual 61 = .ok (.ifCond .eq 7, 3) := by decide +kernel
theorem d_Model_dual_64 : decode b_Model_dual 64 = .ok (.iconst 1, 1) := by decide +kernel
theorem d_Model_dual_65 : decode b_Model_dual 65 = .ok (.goto 4, 3) := by decide +kernel
theorem d_Model_dual_68 : decode b_Model_dual 68 = .ok (.iconst 0, 1) := by decide +kernel
theorem d_Model_dual_69 : decode b_Model_dual 69 = .ok (.istore 4, 2) := by decide +kernel
theorem d_Model_dual_71 : decode b_Model_dual 71 = .ok (.iload 4, 2) := by decide +kernel
theorem d_Model_dual_73 : decode b_Model_dual 73 = .ok (.ifCond .eq 17, 3) := by decide +kernel
theorem d_Model_dual_76 : decode b_Model_dual 76 = .ok (.iload_n 1, 1) := by decide +kernel
theorem d_Model_dual_77 : decode b_Model_dual 77 = .ok (.ifCond .ne 17, 3) := by decide +kernel
theorem d_Model_dual_80 : decode b_Model_dual 80 = .ok (.aload_n 0, 1) := by decide +kernel
theorem d_Model_dual_81 : decode b_Model_dual 81 = .ok (.iload_n 2, 1) := by decide +kernel
theorem d_Model_dual_82 : decode b_Model_dual 82 = .ok (.invokevirtual 126, 3) := by decide +kernel
theorem d_Model_dual_85 : decode b_Model_dual 85 = .ok (.lconst 0, 1) := by decide +kernel
theorem d_Model_dual_86 : decode b_Model_dual 86 = .ok (.lcmp, 1) := by decide +kernel
theorem d_Model_dual_87 : decode b_Model_dual 87 = .ok (.ifCond .ne 7, 3) := by decide +kernel
theorem d_Model_dual_90 : decode b_Model_dual 90 = .ok (.ldc2_w 171, 3) := by decide +kernel
theorem d_Model_dual_93 : decode b_Model_dual 93 = .ok (.lreturn, 1) := by decide +kernel
theorem d_Model_dual_94 : decode b_Model_dual 94 = .ok (.aload_n 0, 1) := by decide +kernel
theorem d_Model_dual_95 : decode b_Model_dual 95 = .ok (.iload_n 1, 1) := by decide +kernel
theorem d_Model_dual_96 : decode b_Model_dual 96 = .ok (.ifCond .ne 7, 3) := by decide +kernel
theorem d_Model_dual_99 : decode b_Model_dual 99 = .ok (.iload_n 2, 1) := by decide +kernel
theorem d_Model_dual_100 : decode b_Model_dual 100 = .ok (.goto 5, 3) := by decide +kernel
theorem d_Model_dual_103 : decode b_Model_dual 103 = .ok (.bipush (-2), 2) := by decide +kernel
theorem d_Model_dual_105 : decode b_Model_dual 105 = .ok (.iload_n 1, 1) := by decide +kernel
theorem d_Model_dual_106 : decode b_Model_dual 106 = .ok (.iconst 1, 1) := by decide +kernel
theorem d_Model_dual_107 : decode b_Model_dual 107 = .ok (.if_icmp .ne 7, 3) := by decide +kernel
theorem d_Model_dual_110 : decode b_Model_dual 110 = .ok (.iload_n 2, 1) := by decide +kernel
theorem d_Model_dual_111 : decode b_Model_dual 111 = .ok (.goto 5, 3) := by decide +kernel
theorem d_Model_dual_114 : decode b_Model_dual 114 = .ok (.bipush (-2), 2) := by decide +kernel
theorem d_Model_dual_116 : decode b_Model_dual 116 = .ok (.lconst 1, 1) := by decide +kernel
theorem d_Model_dual_117 : decode b_Model_dual 117 = .ok (.bipush (-2), 2) := by decide +kernel
theorem d_Model_dual_119 : decode b_Model_dual 119 = .ok (.invokevirtual 150, 3) := by decide +kernel
theorem d_Model_dual_122 : decode b_Model_dual 122 = .ok (.aload_n 0, 1) := by decide +kernel
theorem d_Model_dual_123 : decode b_Model_dual 123 = .ok (.aload_n 0, 1) := by decide +kernel
theorem d_Model_dual_124 : decode b_Model_dual 124 = .ok (.invokevirtual 158, 3) := by decide +kernel
theorem d_Model_dual_127 : decode b_Model_dual 127 = .ok (.iload_n 1, 1) := by decide +kernel
theorem d_Model_dual_128 : decode b_Model_dual 128 = .ok (.i2l, 1) := by decide +kernel
theorem d_Model_dual_129 : decode b_Model_dual 129 = .ok (.ladd, 1) := by decide +kernel
theorem d_Model_dual_130 : decode b_Model_dual 130 = .ok (.iload_n 3, 1) := by decide +kernel
theorem d_Model_dual_131 : decode b_Model_dual 131 = .ok (.invokevirtual 175, 3) := by decide +kernel
theorem d_Model_dual_134 : decode b_Model_dual 134 = .ok (.lreturn, 1) := by decide +kernel
theorem hv_m2 {n : Nat} (h : n < 2 ^ 31) : ¬ nI n = -2 := by
  intro e
  have h1 := nI_toInt h
  rw [e] at h1
  have h2 : (-2 : Int32).toInt = -2 := by decide
  omega
def f_Model_run_h83B (VM2 : Nat) (VM1 : Nat) (VM3 : Nat) (VM4 : Nat) (NM0 : Nat → Nat) (NM1 : Nat → Nat) (NM2 : Nat → Nat) (LM0 : Nat → Int64) (LM1 : Nat → Int64) (LM2 : Nat → Int64) (LM3 : Nat → Int64) (LM4 : Nat → Int64) (LM5 : Nat → Int64) (LM6 : Nat → Int64) (LM7 : Nat → Int64) (LM8 : Nat → Int64) (LM9 : Nat → Int64) (LM10 : Nat → Int64) (LM11 : Nat → Int64) (IM0 : Nat → Int32) (IM1 : Nat → Int32) (y48 : Int64 × (Nat → Int64) × (Nat → Int64) × (Nat → Int32)) (k_83 : (Nat) → (Nat → Int64) → (Nat → Int64) → (Nat → Int64) → (Nat → Int32) → (Nat → Int32) → Nat × (Nat) × (Nat) × (Int64) × (Nat → Int64) × (Nat → Int64) × (Nat → Int64) × (Nat → Int64) × (Nat → Int32) × (Nat → Int32)) (rec_83 : (Nat) → (Nat → Int64) → (Nat → Int64) → (Nat → Int64) → (Nat → Int32) → (Nat → Int32) → Nat × (Nat) × (Nat) × (Int64) × (Nat → Int64) × (Nat → Int64) × (Nat → Int64) × (Nat → Int64) × (Nat → Int32) × (Nat → Int32)) (x4_83 : Nat) (LM13_83 : Nat → Int64) (LM14_83 : Nat → Int64) (LM15_83 : Nat → Int64) (IM2_83 : Nat → Int32) (IM3_83 : Nat → Int32) : Nat × (Nat) × (Nat) × (Int64) × (Nat → Int64) × (Nat → Int64) × (Nat → Int64) × (Nat → Int64) × (Nat → Int32) × (Nat → Int32) :=
  if VM2 ≤ x4_83 then (k_83 x4_83 LM13_83 LM14_83 LM15_83 IM2_83 IM3_83) else (hh_bind (f_Model_lay VM1 VM2 VM3 VM4 NM0 NM1 NM2 LM0 LM1 LM2 LM3 LM4 LM5 LM6 LM7 LM8 LM9 LM10 LM11 LM13_83 LM14_83 IM0 IM1 (-2) (nI x4_83) (-1) (-2)) (fun y102 => hh_bind (f_Model_sendAll y102.1 y102.2 LM15_83 IM3_83) (fun y112 => if y112.1 = y48.1 then (rec_83 (x4_83 + 1) y112.2.1 y102.2 y112.2.2.1 (upd IM2_83 x4_83 (nI 1)) y112.2.2.2) else (rec_83 (x4_83 + 1) y112.2.1 y102.2 y112.2.2.1 (upd IM2_83 x4_83 (nI 0)) y112.2.2.2))))
def f_Model_run_h83 (VM2 : Nat) (VM1 : Nat) (VM3 : Nat) (VM4 : Nat) (NM0 : Nat → Nat) (NM1 : Nat → Nat) (NM2 : Nat → Nat) (LM0 : Nat → Int64) (LM1 : Nat → Int64) (LM2 : Nat → Int64) (LM3 : Nat → Int64) (LM4 : Nat → Int64) (LM5 : Nat → Int64) (LM6 : Nat → Int64) (LM7 : Nat → Int64) (LM8 : Nat → Int64) (LM9 : Nat → Int64) (LM10 : Nat → Int64) (LM11 : Nat → Int64) (IM0 : Nat → Int32) (IM1 : Nat → Int32) (y48 : Int64 × (Nat → Int64) × (Nat → Int64) × (Nat → Int32)) (k_83 : (Nat) → (Nat → Int64) → (Nat → Int64) → (Nat → Int64) → (Nat → Int32) → (Nat → Int32) → Nat × (Nat) × (Nat) × (Int64) × (Nat → Int64) × (Nat → Int64) × (Nat → Int64) × (Nat → Int64) × (Nat → Int32) × (Nat → Int32)) : Nat → (Nat) → (Nat → Int64) → (Nat → Int64) → (Nat → Int64) → (Nat → Int32) → (Nat → Int32) → Nat × (Nat) × (Nat) × (Int64) × (Nat → Int64) × (Nat → Int64) × (Nat → Int64) × (Nat → Int64) × (Nat → Int32) × (Nat → Int32)
  | 0, x4_83, LM13_83, LM14_83, LM15_83, IM2_83, IM3_83 => k_83 x4_83 LM13_83 LM14_83 LM15_83 IM2_83 IM3_83
  | n + 1, x4_83, LM13_83, LM14_83, LM15_83, IM2_83, IM3_83 => f_Model_run_h83B VM2 VM1 VM3 VM4 NM0 NM1 NM2 LM0 LM1 LM2 LM3 LM4 LM5 LM6 LM7 LM8 LM9 LM10 LM11 IM0 IM1 y48 k_83 (fun x4_83 LM13_83 LM14_83 LM15_83 IM2_83 IM3_83 => f_Model_run_h83 VM2 VM1 VM3 VM4 NM0 NM1 NM2 LM0 LM1 LM2 LM3 LM4 LM5 LM6 LM7 LM8 LM9 LM10 LM11 IM0 IM1 y48 k_83 n x4_83 LM13_83 LM14_83 LM15_83 IM2_83 IM3_83) x4_83 LM13_83 LM14_83 LM15_83 IM2_83 IM3_83
def f_Model_run_x83 (WM0 : Int64) (LM12 : Nat → Int64) (x4_83 : Nat) (LM13_83 : Nat → Int64) (LM14_83 : Nat → Int64) (LM15_83 : Nat → Int64) (IM2_83 : Nat → Int32) (IM3_83 : Nat → Int32) : Nat × (Nat) × (Nat) × (Int64) × (Nat → Int64) × (Nat → Int64) × (Nat → Int64) × (Nat → Int64) × (Nat → Int32) × (Nat → Int32) :=
  (1, 0, 2, WM0, LM12, LM13_83, LM14_83, LM15_83, IM2_83, IM3_83)
def f_Model_run (VM1 : Nat) (VM2 : Nat) (VM3 : Nat) (VM4 : Nat) (VM5 : Nat) (WM0 : Int64) (NM0 : Nat → Nat) (NM1 : Nat → Nat) (NM2 : Nat → Nat) (LM0 : Nat → Int64) (LM1 : Nat → Int64) (LM2 : Nat → Int64) (LM3 : Nat → Int64) (LM4 : Nat → Int64) (LM5 : Nat → Int64) (LM6 : Nat → Int64) (LM7 : Nat → Int64) (LM8 : Nat → Int64) (LM9 : Nat → Int64) (LM10 : Nat → Int64) (LM11 : Nat → Int64) (LM12 : Nat → Int64) (LM13 : Nat → Int64) (LM14 : Nat → Int64) (LM15 : Nat → Int64) (IM0 : Nat → Int32) (IM1 : Nat → Int32) (IM2 : Nat → Int32) (IM3 : Nat → Int32) (x1 : Int32) : Nat × (Nat) × (Nat) × (Int64) × (Nat → Int64) × (Nat → Int64) × (Nat → Int64) × (Nat → Int64) × (Nat → Int32) × (Nat → Int32) :=
  if (nI ((VM1 + VM4) * VM2)) ≤ x1 then (if (nI 0) ≤ 0 then (hh_bind (f_Model_lay VM1 VM2 VM3 VM4 NM0 NM1 NM2 LM0 LM1 LM2 LM3 LM4 LM5 LM6 LM7 LM8 LM9 LM10 LM11 LM13 LM14 IM0 IM1 (-2) (-2) 0 (-2)) (fun y44 => hh_bind (f_Model_sendAll y44.1 y44.2 LM15 IM3) (fun y48 => hh_bind (f_Model_wanted VM2 LM2) (fun y54 => if y48.1 = y54 then (hh_bind (f_Model_total VM1 VM2 VM4 NM0 NM1 NM2 y48.2.1 y44.2 IM0) (fun y63 => hh_bind (f_Model_order VM1 VM2 VM4 NM0 NM1 NM2 LM12 y48.2.1 y44.2 y48.2.2.1 IM0 y48.2.2.2) (fun y70 => (0, 0, 1, y63, y70.1, y70.2.1, y44.2, y70.2.2.1, IM2, y70.2.2.2)))) else (f_Model_run_h83 VM2 VM1 VM3 VM4 NM0 NM1 NM2 LM0 LM1 LM2 LM3 LM4 LM5 LM6 LM7 LM8 LM9 LM10 LM11 IM0 IM1 y48 (f_Model_run_x83 WM0 LM12) 9 0 y48.2.1 y44.2 y48.2.2.1 IM2 y48.2.2.2))))) else (0, 0, VM5, WM0, LM12, LM13, LM14, LM15, IM2, IM3)) else (if (nI 1) ≤ 0 then (0, 1, VM5, WM0, LM12, LM13, LM14, LM15, IM2, IM3) else (0, 1, VM5, WM0, LM12, LM13, LM14, LM15, IM2, IM3))
set_option maxHeartbeats 4000000 in
set_option maxRecDepth 100000 in
theorem c_Model_run (l : Launch) (dC : Nat → ClassId) (dI : Nat → Nat → Nat) (cI cJ cZ : ClassId) (sz : Nat) (aM : Nat → Nat) (VM0 : Nat) (VM1 : Nat) (VM2 : Nat) (VM3 : Nat) (VM4 : Nat) (VM5 : Nat) (WM0 : Int64) (NM0 : Nat → Nat) (NM1 : Nat → Nat) (NM2 : Nat → Nat) (LM0 : Nat → Int64) (LM1 : Nat → Int64) (LM2 : Nat → Int64) (LM3 : Nat → Int64) (LM4 : Nat → Int64) (LM5 : Nat → Int64) (LM6 : Nat → Int64) (LM7 : Nat → Int64) (LM8 : Nat → Int64) (LM9 : Nat → Int64) (LM10 : Nat → Int64) (LM11 : Nat → Int64) (LM12 : Nat → Int64) (LM13 : Nat → Int64) (LM14 : Nat → Int64) (LM15 : Nat → Int64) (IM0 : Nat → Int32) (IM1 : Nat → Int32) (IM2 : Nat → Int32) (IM3 : Nat → Int32) (x1 : Int32) (m1 : VM1 ≤ 8) (m2 : VM2 ≤ 8) (m3 : VM3 ≤ 6) (m4 : VM4 ≤ 4) (mk4 : ∀ i, NM0 i < 4) (mcw : ∀ i, NM1 i < 12) (mfw : ∀ i, NM2 i < 12) (msb : ∀ i, i < 4 → ¬ LM5 i = 0) (m5 : VM5 ≤ 2) (hvM : hv_M VM2 LM0 LM1 LM2 LM3 LM4 LM5 LM6 LM7 LM8 LM9 LM10 LM11) : hh_Ci l y_Model_run u_Model_run ({ frames := 3, cells := 0, slots := 0, locals := 85 }) (dC, dI) vwCl [(cI, .int), (cJ, .long), (cZ, .boolean)] (w_M cI cJ cZ aM VM0 VM1 VM2 VM3 VM4 VM5 WM0 NM0 NM1 NM2 LM0 LM1 LM2 LM3 LM4 LM5 LM6 LM7 LM8 LM9 LM10 LM11 LM12 LM13 LM14 LM15 IM0 IM1 IM2 IM3) sz [.ref (aM 0), .int x1] (nI ((f_Model_run VM1 VM2 VM3 VM4 VM5 WM0 NM0 NM1 NM2 LM0 LM1 LM2 LM3 LM4 LM5 LM6 LM7 LM8 LM9 LM10 LM11 LM12 LM13 LM14 LM15 IM0 IM1 IM2 IM3 x1).1)) (w_M cI cJ cZ aM ((f_Model_run VM1 VM2 VM3 VM4 VM5 WM0 NM0 NM1 NM2 LM0 LM1 LM2 LM3 LM4 LM5 LM6 LM7 LM8 LM9 LM10 LM11 LM12 LM13 LM14 LM15 IM0 IM1 IM2 IM3 x1).2.1) VM1 VM2 VM3 VM4 ((f_Model_run VM1 VM2 VM3 VM4 VM5 WM0 NM0 NM1 NM2 LM0 LM1 LM2 LM3 LM4 LM5 LM6 LM7 LM8 LM9 LM10 LM11 LM12 LM13 LM14 LM15 IM0 IM1 IM2 IM3 x1).2.2.1) ((f_Model_run VM1 VM2 VM3 VM4 VM5 WM0 NM0 NM1 NM2 LM0 LM1 LM2 LM3 LM4 LM5 LM6 LM7 LM8 LM9 LM10 LM11 LM12 LM13 LM14 LM15 IM0 IM1 IM2 IM3 x1).2.2.2.1) NM0 NM1 NM2 LM0 LM1 LM2 LM3 LM4 LM5 LM6 LM7 LM8 LM9 LM10 LM11 ((f_Model_run VM1 VM2 VM3 VM4 VM5 WM0 NM0 NM1 NM2 LM0 LM1 LM2 LM3 LM4 LM5 LM6 LM7 LM8 LM9 LM10 LM11 LM12 LM13 LM14 LM15 IM0 IM1 IM2 IM3 x1).2.2.2.2.1) ((f_Model_run VM1 VM2 VM3 VM4 VM5 WM0 NM0 NM1 NM2 LM0 LM1 LM2 LM3 LM4 LM5 LM6 LM7 LM8 LM9 LM10 LM11 LM12 LM13 LM14 LM15 IM0 IM1 IM2 IM3 x1).2.2.2.2.2.1) ((f_Model_run VM1 VM2 VM3 VM4 VM5 WM0 NM0 NM1 NM2 LM0 LM1 LM2 LM3 LM4 LM5 LM6 LM7 LM8 LM9 LM10 LM11 LM12 LM13 LM14 LM15 IM0 IM1 IM2 IM3 x1).2.2.2.2.2.2.1) ((f_Model_run VM1 VM2 VM3 VM4 VM5 WM0 NM0 NM1 NM2 LM0 LM1 LM2 LM3 LM4 LM5 LM6 LM7 LM8 LM9 LM10 LM11 LM12 LM13 LM14 LM15 IM0 IM1 IM2 IM3 x1).2.2.2.2.2.2.2.1) IM0 IM1 ((f_Model_run VM1 VM2 VM3 VM4 VM5 WM0 NM0 NM1 NM2 LM0 LM1 LM2 LM3 LM4 LM5 LM6 LM7 LM8 LM9 LM10 LM11 LM12 LM13 LM14 LM15 IM0 IM1 IM2 IM3 x1).2.2.2.2.2.2.2.2.1) ((f_Model_run VM1 VM2 VM3 VM4 VM5 WM0 NM0 NM1 NM2 LM0 LM1 LM2 LM3 LM4 LM5 LM6 LM7 LM8 LM9 LM10 LM11 LM12 LM13 LM14 LM15 IM0 IM1 IM2 IM3 x1).2.2.2.2.2.2.2.2.2)) 0 0 := by
  unfold hh_Ci
  refine Met.ofW (cc := b_Model_run) (maxL := 5) (ret := (some .int)) (by decide) rfl ?_
  intro p e s m args below meth c s₁ B hml hv
  obtain ⟨rfl, hsz, hP, hK, hD0⟩ := hv
  have hx := B.exec
  have hb := B.bytes
  have hr := B.returns
  have hts := atoms_spec (ws := u_Model_run) B.pre
  have hG : ∀ w ∈ wG, w.before ([.ref (aM 0), .int x1]).toArray s = true := fun w h => hts w (List.mem_cons_of_mem _ h)
  have hown : s.vm.findClass R_Model = some m.cls := findClass_of_methodNamed B.named
  have hlocks := B.notSynchronized
  subst hsz
  have hD := hD0.self (sz := s.heap.size)
  generalize hAe : va_A (w_M cI cJ cZ aM VM0 VM1 VM2 VM3 VM4 VM5 WM0 NM0 NM1 NM2 LM0 LM1 LM2 LM3 LM4 LM5 LM6 LM7 LM8 LM9 LM10 LM11 LM12 LM13 LM14 LM15 IM0 IM1 IM2 IM3) s.heap.size = A at hD ⊢
  have hA : ∀ q : Nat, s.heap.size ≤ q → A q := fun q h => by rw [← hAe]; exact Or.inr h
  have hS : va_S A s.heap s.heap [] := va_S.rf
  have hl := lv_entry ([.ref (aM 0), .int x1]) (n := 5) (Nat.le_of_ble_eq_true rfl)
  rw [lg_entry_eq]
  generalize (lg_sl ([.ref (aM 0), .int x1]) ++ List.replicate (5 - (lg_sl ([.ref (aM 0), .int x1])).length) Slot.unset).toArray = ls at hl ⊢
  have hl : lv_has ls 5 [(0, .ref (aM 0)), (1, .int x1)] := hl
  generalize hR : f_Model_run VM1 VM2 VM3 VM4 VM5 WM0 NM0 NM1 NM2 LM0 LM1 LM2 LM3 LM4 LM5 LM6 LM7 LM8 LM9 LM10 LM11 LM12 LM13 LM14 LM15 IM0 IM1 IM2 IM3 x1 = r0
  obtain ⟨H, locs, hHe, hle⟩ : ∃ (H : Heap) (locs : List Loc), s.heap = H ∧ [] = locs := ⟨_, _, rfl, rfl⟩
  have hP : va_P (dC, dI) vwCl (w_M cI cJ cZ aM VM0 VM1 VM2 VM3 VM4 VM5 WM0 NM0 NM1 NM2 LM0 LM1 LM2 LM3 LM4 LM5 LM6 LM7 LM8 LM9 LM10 LM11 LM12 LM13 LM14 LM15 IM0 IM1 IM2 IM3) H := by rw [← hHe]; exact hP
  have hS : va_S A s.heap H locs := by rw [← hHe, ← hle]; exact hS
  refine hw_start hHe hle ?_
  unfold f_Model_run at hR
  refine lv_aload_n hx hb d_Model_run_0 rfl (lv_at hl 0 rfl) ?_
  refine lv_aload_n hx hb d_Model_run_1 rfl (lv_at hl 0 rfl) ?_
  refine va_get (D := (dC, dI)) (ci := 5) (v := .int (nI VM1)) (C := R_Model) (T := T_Model) (N := 30) hx hb hG in_Model hown hK hP 0 rfl rfl 1 (by decide) (hG _ m_615) (fun _ h9 => h9) rfl d_Model_run_2 ?_
  refine lv_aload_n hx hb d_Model_run_5 rfl (lv_at hl 0 rfl) ?_
  refine va_get (D := (dC, dI)) (ci := 5) (v := .int (nI VM4)) (C := R_Model) (T := T_Model) (N := 30) hx hb hG in_Model hown hK hP 0 rfl rfl 18 (by decide) (hG _ m_632) (fun _ h9 => h9) rfl d_Model_run_6 ?_
  refine hw_iadd hx hb d_Model_run_9 ?_
  refine lv_aload_n hx hb d_Model_run_10 rfl (lv_at hl 0 rfl) ?_
  refine va_get (D := (dC, dI)) (ci := 5) (v := .int (nI VM2)) (C := R_Model) (T := T_Model) (N := 30) hx hb hG in_Model hown hK hP 0 rfl rfl 6 (by decide) (hG _ m_620) (fun _ h9 => h9) rfl d_Model_run_11 ?_
  refine hw_imul hx hb d_Model_run_14 ?_
  refine lv_iload_n hx hb d_Model_run_15 rfl (lv_at hl 1 rfl) ?_
  refine lv_icmp_le (tgt := 23) hx hb d_Model_run_16 (by decide) (fun c16 => ?_) (fun c16 => ?_)
  · replace hR := (if_pos c16).symm.trans hR
    refine lv_iconst (v := nI 0) hx hb d_Model_run_23 (by decide) ?_
    refine va_put (D := (dC, dI)) (ci := 5) (v := .int (nI 0)) (ty := .int) (C := R_Model) (T := T_Model) (N := 30) hx hb hG in_Model ty_Model tok_Model nok_Model hown hK hP hD hS 0 rfl rfl 0 (by decide) (hG _ m_614) (fun _ h9 => h9) rfl (by decide +kernel) rfl rfl (Nat.le_of_ble_eq_true rfl) d_Model_run_24 (fun H locs hP hD hS => ?_)
    have hP : va_P (dC, dI) vwCl (w_M cI cJ cZ aM 0 VM1 VM2 VM3 VM4 VM5 WM0 NM0 NM1 NM2 LM0 LM1 LM2 LM3 LM4 LM5 LM6 LM7 LM8 LM9 LM10 LM11 LM12 LM13 LM14 LM15 IM0 IM1 IM2 IM3) H := hP
    have hD : va_D A (w_M cI cJ cZ aM 0 VM1 VM2 VM3 VM4 VM5 WM0 NM0 NM1 NM2 LM0 LM1 LM2 LM3 LM4 LM5 LM6 LM7 LM8 LM9 LM10 LM11 LM12 LM13 LM14 LM15 IM0 IM1 IM2 IM3) := hD
    refine lv_aload_n hx hb d_Model_run_27 rfl (lv_at hl 0 rfl) ?_
    refine va_get (D := (dC, dI)) (ci := 5) (v := .int (nI 0)) (C := R_Model) (T := T_Model) (N := 30) hx hb hG in_Model hown hK hP 0 rfl rfl 0 (by decide) (hG _ m_614) (fun _ h9 => h9) rfl d_Model_run_28 ?_
    refine lv_if_le (tgt := 36) hx hb d_Model_run_31 (by decide) (fun c31 => ?_) (fun c31 => ?_)
    · replace hR := (if_pos c31).symm.trans hR
      refine lv_aload_n hx hb d_Model_run_36 rfl (lv_at hl 0 rfl) ?_
      refine lv_bipush (v := (-2)) hx hb d_Model_run_37 (by decide) ?_
      refine lv_bipush (v := (-2)) hx hb d_Model_run_39 (by decide) ?_
      refine lv_lconst (v := 0) hx hb d_Model_run_41 (by decide) ?_
      refine lv_bipush (v := (-2)) hx hb d_Model_run_42 (by decide) ?_
      obtain ⟨y44, hy44, hR⟩ := hw_bind hR
      have hM := c_Model_lay l dC dI cI cJ cZ H.size aM 0 VM1 VM2 VM3 VM4 VM5 WM0 NM0 NM1 NM2 LM0 LM1 LM2 LM3 LM4 LM5 LM6 LM7 LM8 LM9 LM10 LM11 LM12 LM13 LM14 LM15 IM0 IM1 IM2 IM3 (-2) (-2) 0 (-2) (by first | assumption | omega) (by first | assumption | omega) (by first | assumption | omega) (by first | assumption | omega) (by first | assumption | omega) (by first | assumption | omega) (by first | assumption | omega) (by first | assumption | omega) (by first | assumption | omega)
      rw [hy44] at hM
      refine hw_callVv (As := [.int (-2), .int (-2), .long 0, .int (-2)]) (rest := []) (wr := ([] : va_W)) ⟨hx, hb, hml, hown, hG⟩ hM (hw_cwV 4 hG m_754 m_756 mp_21 m_7 m_757 rfl rfl (by decide +kernel) ⟨Nat.le_of_ble_eq_true rfl, Nat.le_of_ble_eq_true rfl⟩) hK hP hD hS hA [0, 1, 2, 3, 4, 5, 6, 7, 8, 9, 10, 11, 12, 13, 14, 15, 16, 17, 18, 19, 20, 21, 22, 23] [] rfl rfl (by decide) (by decide) (by decide) (hw_recv hK hP 0 rfl rfl) rfl hl.1 rfl (Nat.le_of_ble_eq_true rfl) d_Model_run_44 ⟨Nat.le_of_ble_eq_true rfl, Nat.le_of_ble_eq_true rfl⟩ (fun H locs hP hD hS => ?_)
      have hP : va_P (dC, dI) vwCl (w_M cI cJ cZ aM 0 VM1 VM2 VM3 VM4 VM5 WM0 NM0 NM1 NM2 LM0 LM1 LM2 LM3 LM4 LM5 LM6 LM7 LM8 LM9 LM10 LM11 LM12 y44.1 y44.2 LM15 IM0 IM1 IM2 IM3) H := hP
      have hD : va_D A (w_M cI cJ cZ aM 0 VM1 VM2 VM3 VM4 VM5 WM0 NM0 NM1 NM2 LM0 LM1 LM2 LM3 LM4 LM5 LM6 LM7 LM8 LM9 LM10 LM11 LM12 y44.1 y44.2 LM15 IM0 IM1 IM2 IM3) := hD
      have hnt := hv_net (VM1 := VM1) (VM2 := VM2) (VM3 := VM3) (VM4 := VM4) (NM0 := NM0) (NM1 := NM1) (NM2 := NM2) (IM0 := IM0) (IM1 := IM1) (-2) (-2) 0 (-2) LM13 LM14 hvM mk4 mfw m2 (by omega) ⟨by decide, by decide⟩ (fun s hs e => absurd e (hv_m2 (by omega)))
      rw [hy44] at hnt
      refine lv_aload_n hx hb d_Model_run_47 rfl (lv_at hl 0 rfl) ?_
      obtain ⟨y48, hy48, hR⟩ := hw_bind hR
      have hM := c_Model_sendAll l dC dI cI cJ cZ H.size aM 0 VM1 VM2 VM3 VM4 VM5 WM0 NM0 NM1 NM2 LM0 LM1 LM2 LM3 LM4 LM5 LM6 LM7 LM8 LM9 LM10 LM11 LM12 y44.1 y44.2 LM15 IM0 IM1 IM2 IM3 (fun _ => 0) hnt.1
      rw [hy48] at hM
      refine hw_callVl (As := []) (rest := []) (wr := ([] : va_W)) ⟨hx, hb, hml, hown, hG⟩ hM (hw_cwV 0 hG m_777 m_779 mp_26 m_7 m_780 rfl rfl (by decide +kernel) ⟨Nat.le_of_ble_eq_true rfl, Nat.le_of_ble_eq_true rfl⟩) hK hP hD hS hA [0, 1, 2, 3, 4, 5, 6, 7, 8, 9, 10, 11, 12, 13, 14, 15, 16, 17, 18, 19, 20, 21, 22, 23] [] rfl rfl (by decide) (by decide) (by decide) (hw_recv hK hP 0 rfl rfl) rfl hl.1 rfl (Nat.le_of_ble_eq_true rfl) d_Model_run_48 ⟨Nat.le_of_ble_eq_true rfl, Nat.le_of_ble_eq_true rfl⟩ (fun H locs hP hD hS => ?_)
      have hP : va_P (dC, dI) vwCl (w_M cI cJ cZ aM 0 VM1 VM2 VM3 VM4 VM5 WM0 NM0 NM1 NM2 LM0 LM1 LM2 LM3 LM4 LM5 LM6 LM7 LM8 LM9 LM10 LM11 LM12 y48.2.1 y44.2 y48.2.2.1 IM0 IM1 IM2 y48.2.2.2) H := hP
      have hD : va_D A (w_M cI cJ cZ aM 0 VM1 VM2 VM3 VM4 VM5 WM0 NM0 NM1 NM2 LM0 LM1 LM2 LM3 LM4 LM5 LM6 LM7 LM8 LM9 LM10 LM11 LM12 y48.2.1 y44.2 y48.2.2.1 IM0 IM1 IM2 y48.2.2.2) := hD
      obtain ⟨pi1, hdn⟩ := f_Model_sendAll_done LM15 IM3 hnt.1
      rw [hy48] at hdn
      refine lv_lstore_n (lv' := [(2, .long y48.1), (0, .ref (aM 0)), (1, .int x1)]) hx hb d_Model_run_51 rfl hl (by decide) rfl (fun ls hl => ?_)
      refine lv_lload_n hx hb d_Model_run_52 rfl (lv_at hl 0 rfl) ?_
      refine lv_aload_n hx hb d_Model_run_53 rfl (lv_at hl 1 rfl) ?_
      obtain ⟨y54, hy54, hR⟩ := hw_bind hR
      have hM := c_Model_wanted l dC dI cI cJ cZ H.size aM 0 VM1 VM2 VM3 VM4 VM5 WM0 NM0 NM1 NM2 LM0 LM1 LM2 LM3 LM4 LM5 LM6 LM7 LM8 LM9 LM10 LM11 LM12 y48.2.1 y44.2 y48.2.2.1 IM0 IM1 IM2 y48.2.2.2 (by first | assumption | omega)
      rw [hy54] at hM
      refine hw_callVl (As := []) (rest := [.long y48.1]) (wr := ([] : va_W)) ⟨hx, hb, hml, hown, hG⟩ hM (hw_cwV 0 hG m_790 m_792 mp_29 m_7 m_793 rfl rfl (by decide +kernel) ⟨Nat.le_of_ble_eq_true rfl, Nat.le_of_ble_eq_true rfl⟩) hK hP hD hS hA [0, 1, 2, 3, 4, 5, 6, 7, 8, 9, 10, 11, 12, 13, 14, 15, 16, 17, 18, 19, 20, 21, 22, 23] [] rfl rfl (by decide) (by decide) (by decide) (hw_recv hK hP 0 rfl rfl) rfl hl.1 rfl (Nat.le_of_ble_eq_true rfl) d_Model_run_54 ⟨Nat.le_of_ble_eq_true rfl, Nat.le_of_ble_eq_true rfl⟩ (fun H locs hP hD hS => ?_)
      have hP : va_P (dC, dI) vwCl (w_M cI cJ cZ aM 0 VM1 VM2 VM3 VM4 VM5 WM0 NM0 NM1 NM2 LM0 LM1 LM2 LM3 LM4 LM5 LM6 LM7 LM8 LM9 LM10 LM11 LM12 y48.2.1 y44.2 y48.2.2.1 IM0 IM1 IM2 y48.2.2.2) H := hP
      have hD : va_D A (w_M cI cJ cZ aM 0 VM1 VM2 VM3 VM4 VM5 WM0 NM0 NM1 NM2 LM0 LM1 LM2 LM3 LM4 LM5 LM6 LM7 LM8 LM9 LM10 LM11 LM12 y48.2.1 y44.2 y48.2.2.1 IM0 IM1 IM2 y48.2.2.2) := hD
      refine hw_lcmp_ne (tgt := 80) hx hb d_Model_run_57 d_Model_run_58 (by decide) (fun c57 => ?_) (fun c57 => ?_)
      · replace hR := (if_neg c57).symm.trans hR
        refine lv_iconst (v := nI 0) hx hb d_Model_run_80 (by decide) ?_
        refine lv_istore (lv' := [(4, .int (nI 0)), (2, .long y48.1), (0, .ref (aM 0)), (1, .int x1)]) hx hb d_Model_run_81 hl (by decide) rfl (fun ls hl => ?_)
        obtain ⟨k_83, hk_83, hR⟩ : ∃ k, (f_Model_run_x83 WM0 LM12) = k ∧ f_Model_run_h83 VM2 VM1 VM3 VM4 NM0 NM1 NM2 LM0 LM1 LM2 LM3 LM4 LM5 LM6 LM7 LM8 LM9 LM10 LM11 IM0 IM1 y48 k 9 0 y48.2.1 y44.2 y48.2.2.1 IM2 y48.2.2.2 = r0 := ⟨_, rfl, hR⟩
        have X_83 : ∀ (x4_83 : Nat) (LM13_83 : Nat → Int64) (LM14_83 : Nat → Int64) (LM15_83 : Nat → Int64) (IM2_83 : Nat → Int32) (IM3_83 : Nat → Int32) (hi : x4_83 ≤ VM2) (H : Heap) (locs : List Loc) (hP : va_P (dC, dI) vwCl (w_M cI cJ cZ aM 0 VM1 VM2 VM3 VM4 VM5 WM0 NM0 NM1 NM2 LM0 LM1 LM2 LM3 LM4 LM5 LM6 LM7 LM8 LM9 LM10 LM11 LM12 LM13_83 LM14_83 LM15_83 IM0 IM1 IM2_83 IM3_83) H) (hD : va_D A (w_M cI cJ cZ aM 0 VM1 VM2 VM3 VM4 VM5 WM0 NM0 NM1 NM2 LM0 LM1 LM2 LM3 LM4 LM5 LM6 LM7 LM8 LM9 LM10 LM11 LM12 LM13_83 LM14_83 LM15_83 IM0 IM1 IM2_83 IM3_83)) (hS : va_S A s.heap H locs) (ls : Array Slot) (hl : lv_has ls 5 [(0, .ref (aM 0)), (1, .int x1), (2, .long y48.1), (4, .int (nI x4_83))]) (hR : k_83 x4_83 LM13_83 LM14_83 LM15_83 IM2_83 IM3_83 = r0), W p l e (headSpec u_Model_run ({ frames := 3, cells := 0, slots := 0, locals := 85 })).room s m ([.ref (aM 0), .int x1]).toArray below meth c H locs 0 0 (hh_Zi below (dC, dI) vwCl [(cI, .int), (cJ, .long), (cZ, .boolean)] A (nI r0.1) (w_M cI cJ cZ aM r0.2.1 VM1 VM2 VM3 VM4 r0.2.2.1 r0.2.2.2.1 NM0 NM1 NM2 LM0 LM1 LM2 LM3 LM4 LM5 LM6 LM7 LM8 LM9 LM10 LM11 r0.2.2.2.2.1 r0.2.2.2.2.2.1 r0.2.2.2.2.2.2.1 r0.2.2.2.2.2.2.2.1 IM0 IM1 r0.2.2.2.2.2.2.2.2.1 r0.2.2.2.2.2.2.2.2.2) ([.ref (aM 0), .int x1]).toArray s) (F0 m 132 ls []) := by
          intro x4_83 LM13_83 LM14_83 LM15_83 IM2_83 IM3_83 hi H locs hP hD hS ls hl hR
          rw [← hk_83] at hR
          unfold f_Model_run_x83 at hR
          refine lv_aload_n hx hb d_Model_run_132 rfl (lv_at hl 0 rfl) ?_
          refine lv_iconst (v := nI 2) hx hb d_Model_run_133 (by decide) ?_
          refine va_put (D := (dC, dI)) (ci := 5) (v := .int (nI 2)) (ty := .int) (C := R_Model) (T := T_Model) (N := 30) hx hb hG in_Model ty_Model tok_Model nok_Model hown hK hP hD hS 0 rfl rfl 22 (by decide) (hG _ m_636) (fun _ h9 => h9) rfl (by decide +kernel) rfl rfl (Nat.le_of_ble_eq_true rfl) d_Model_run_134 (fun H locs hP hD hS => ?_)
          have hP : va_P (dC, dI) vwCl (w_M cI cJ cZ aM 0 VM1 VM2 VM3 VM4 2 WM0 NM0 NM1 NM2 LM0 LM1 LM2 LM3 LM4 LM5 LM6 LM7 LM8 LM9 LM10 LM11 LM12 LM13_83 LM14_83 LM15_83 IM0 IM1 IM2_83 IM3_83) H := hP
          have hD : va_D A (w_M cI cJ cZ aM 0 VM1 VM2 VM3 VM4 2 WM0 NM0 NM1 NM2 LM0 LM1 LM2 LM3 LM4 LM5 LM6 LM7 LM8 LM9 LM10 LM11 LM12 LM13_83 LM14_83 LM15_83 IM0 IM1 IM2_83 IM3_83) := hD
          refine lv_iconst (v := nI 1) hx hb d_Model_run_137 (by decide) ?_
          subst hR
          exact W.iret (v := nI 1) hx hb hr (fun t ht hW => ⟨⟨_, (), rfl, rfl, by rw [ht]; exact hP, va_K.moved hW.alike hK, hD⟩, hS.F ht⟩) hS.2.2 d_Model_run_138
        have L_83 : ∀ (n : Nat) (x4_83 : Nat) (LM13_83 : Nat → Int64) (LM14_83 : Nat → Int64) (LM15_83 : Nat → Int64) (IM2_83 : Nat → Int32) (IM3_83 : Nat → Int32) (hi : x4_83 ≤ VM2) (hfu : VM2 - x4_83 < n) (H : Heap) (locs : List Loc) (hP : va_P (dC, dI) vwCl (w_M cI cJ cZ aM 0 VM1 VM2 VM3 VM4 VM5 WM0 NM0 NM1 NM2 LM0 LM1 LM2 LM3 LM4 LM5 LM6 LM7 LM8 LM9 LM10 LM11 LM12 LM13_83 LM14_83 LM15_83 IM0 IM1 IM2_83 IM3_83) H) (hD : va_D A (w_M cI cJ cZ aM 0 VM1 VM2 VM3 VM4 VM5 WM0 NM0 NM1 NM2 LM0 LM1 LM2 LM3 LM4 LM5 LM6 LM7 LM8 LM9 LM10 LM11 LM12 LM13_83 LM14_83 LM15_83 IM0 IM1 IM2_83 IM3_83)) (hS : va_S A s.heap H locs) (ls : Array Slot) (hl : lv_has ls 5 [(0, .ref (aM 0)), (1, .int x1), (2, .long y48.1), (4, .int (nI x4_83))]) (hR : f_Model_run_h83 VM2 VM1 VM3 VM4 NM0 NM1 NM2 LM0 LM1 LM2 LM3 LM4 LM5 LM6 LM7 LM8 LM9 LM10 LM11 IM0 IM1 y48 k_83 n x4_83 LM13_83 LM14_83 LM15_83 IM2_83 IM3_83 = r0), W p l e (headSpec u_Model_run ({ frames := 3, cells := 0, slots := 0, locals := 85 })).room s m ([.ref (aM 0), .int x1]).toArray below meth c H locs 0 0 (hh_Zi below (dC, dI) vwCl [(cI, .int), (cJ, .long), (cZ, .boolean)] A (nI r0.1) (w_M cI cJ cZ aM r0.2.1 VM1 VM2 VM3 VM4 r0.2.2.1 r0.2.2.2.1 NM0 NM1 NM2 LM0 LM1 LM2 LM3 LM4 LM5 LM6 LM7 LM8 LM9 LM10 LM11 r0.2.2.2.2.1 r0.2.2.2.2.2.1 r0.2.2.2.2.2.2.1 r0.2.2.2.2.2.2.2.1 IM0 IM1 r0.2.2.2.2.2.2.2.2.1 r0.2.2.2.2.2.2.2.2.2) ([.ref (aM 0), .int x1]).toArray s) (F0 m 83 ls []) := by
          intro n
          induction n with
          | zero =>
            intro x4_83 LM13_83 LM14_83 LM15_83 IM2_83 IM3_83 hi hfu H locs hP hD hS ls hl hR
            exact absurd hfu (Nat.not_lt_zero _)
          | succ n ih_83 =>
            intro x4_83 LM13_83 LM14_83 LM15_83 IM2_83 IM3_83 hi hfu H locs hP hD hS ls hl hR
            rw [f_Model_run_h83] at hR
            obtain ⟨rec_83, hrec_83, hR⟩ : ∃ r, r = _ ∧ f_Model_run_h83B VM2 VM1 VM3 VM4 NM0 NM1 NM2 LM0 LM1 LM2 LM3 LM4 LM5 LM6 LM7 LM8 LM9 LM10 LM11 IM0 IM1 y48 k_83 r x4_83 LM13_83 LM14_83 LM15_83 IM2_83 IM3_83 = r0 := ⟨_, rfl, hR⟩
            unfold f_Model_run_h83B at hR
            refine lv_iload hx hb d_Model_run_83 (lv_at hl 3 rfl) ?_
            refine lv_aload_n hx hb d_Model_run_85 rfl (lv_at hl 0 rfl) ?_
            refine va_get (D := (dC, dI)) (ci := 5) (v := .int (nI VM2)) (C := R_Model) (T := T_Model) (N := 30) hx hb hG in_Model hown hK hP 0 rfl rfl 6 (by decide) (hG _ m_620) (fun _ h9 => h9) rfl d_Model_run_86 ?_
            refine hw_icmp_ge (tgt := 132) hx hb d_Model_run_89 (by decide) (by omega) (by omega) (fun c89 => ?_) (fun c89 => ?_)
            · replace hR := (if_pos c89).symm.trans hR
              exact X_83 x4_83 LM13_83 LM14_83 LM15_83 IM2_83 IM3_83 (by first | assumption | omega | exact hw_upb (by assumption) (by omega)) H locs hP hD hS ls (lv_sub hl [0, 1, 2, 3] rfl) hR
            · replace hR := (if_neg c89).symm.trans hR
              refine lv_aload_n hx hb d_Model_run_92 rfl (lv_at hl 0 rfl) ?_
              refine lv_bipush (v := (-2)) hx hb d_Model_run_93 (by decide) ?_
              refine lv_iload hx hb d_Model_run_95 (lv_at hl 3 rfl) ?_
              refine lv_ldc2 (v := (-1)) hx hb hown (hG _ m_806) d_Model_run_97 ?_
              refine lv_bipush (v := (-2)) hx hb d_Model_run_100 (by decide) ?_
              obtain ⟨y102, hy102, hR⟩ := hw_bind hR
              have hM := c_Model_lay l dC dI cI cJ cZ H.size aM 0 VM1 VM2 VM3 VM4 VM5 WM0 NM0 NM1 NM2 LM0 LM1 LM2 LM3 LM4 LM5 LM6 LM7 LM8 LM9 LM10 LM11 LM12 LM13_83 LM14_83 LM15_83 IM0 IM1 IM2_83 IM3_83 (-2) (nI x4_83) (-1) (-2) (by first | assumption | omega) (by first | assumption | omega) (by first | assumption | omega) (by first | assumption | omega) (by first | assumption | omega) (by first | assumption | omega) (by first | assumption | omega) (by first | assumption | omega) (by first | assumption | omega)
              rw [hy102] at hM
              refine hw_callVv (As := [.int (-2), .int (nI x4_83), .long (-1), .int (-2)]) (rest := []) (wr := ([] : va_W)) ⟨hx, hb, hml, hown, hG⟩ hM (hw_cwV 4 hG m_754 m_756 mp_21 m_7 m_757 rfl rfl (by decide +kernel) ⟨Nat.le_of_ble_eq_true rfl, Nat.le_of_ble_eq_true rfl⟩) hK hP hD hS hA [0, 1, 2, 3, 4, 5, 6, 7, 8, 9, 10, 11, 12, 13, 14, 15, 16, 17, 18, 19, 20, 21, 22, 23] [] rfl rfl (by decide) (by decide) (by decide) (hw_recv hK hP 0 rfl rfl) rfl hl.1 rfl (Nat.le_of_ble_eq_true rfl) d_Model_run_102 ⟨Nat.le_of_ble_eq_true rfl, Nat.le_of_ble_eq_true rfl⟩ (fun H locs hP hD hS => ?_)
              have hP : va_P (dC, dI) vwCl (w_M cI cJ cZ aM 0 VM1 VM2 VM3 VM4 VM5 WM0 NM0 NM1 NM2 LM0 LM1 LM2 LM3 LM4 LM5 LM6 LM7 LM8 LM9 LM10 LM11 LM12 y102.1 y102.2 LM15_83 IM0 IM1 IM2_83 IM3_83) H := hP
              have hD : va_D A (w_M cI cJ cZ aM 0 VM1 VM2 VM3 VM4 VM5 WM0 NM0 NM1 NM2 LM0 LM1 LM2 LM3 LM4 LM5 LM6 LM7 LM8 LM9 LM10 LM11 LM12 y102.1 y102.2 LM15_83 IM0 IM1 IM2_83 IM3_83) := hD
              have hnt2 := hv_net (VM1 := VM1) (VM2 := VM2) (VM3 := VM3) (VM4 := VM4) (NM0 := NM0) (NM1 := NM1) (NM2 := NM2) (IM0 := IM0) (IM1 := IM1) (-2) (nI x4_83) (-1) (-2) LM13_83 LM14_83 hvM mk4 mfw m2 (by omega) ⟨by decide, by decide⟩ (fun s hs e => absurd e (hv_m2 (by omega)))
              rw [hy102] at hnt2
              refine lv_aload_n hx hb d_Model_run_105 rfl (lv_at hl 0 rfl) ?_
              refine va_get (D := (dC, dI)) (ci := 5) (v := .ref (aM 19)) (C := R_Model) (T := T_Model) (N := 30) hx hb hG in_Model hown hK hP 0 rfl rfl 25 (by decide) (hG _ m_639) (fun _ h9 => h9) rfl d_Model_run_106 ?_
              refine lv_iload hx hb d_Model_run_109 (lv_at hl 3 rfl) ?_
              refine lv_aload_n hx hb d_Model_run_111 rfl (lv_at hl 0 rfl) ?_
              obtain ⟨y112, hy112, hR⟩ := hw_bind hR
              have hM := c_Model_sendAll l dC dI cI cJ cZ H.size aM 0 VM1 VM2 VM3 VM4 VM5 WM0 NM0 NM1 NM2 LM0 LM1 LM2 LM3 LM4 LM5 LM6 LM7 LM8 LM9 LM10 LM11 LM12 y102.1 y102.2 LM15_83 IM0 IM1 IM2_83 IM3_83 (fun _ => 0) hnt2.1
              rw [hy112] at hM
              refine hw_callVl (As := []) (rest := [.int (nI x4_83), .ref (aM 19)]) (wr := ([] : va_W)) ⟨hx, hb, hml, hown, hG⟩ hM (hw_cwV 0 hG m_777 m_779 mp_26 m_7 m_780 rfl rfl (by decide +kernel) ⟨Nat.le_of_ble_eq_true rfl, Nat.le_of_ble_eq_true rfl⟩) hK hP hD hS hA [0, 1, 2, 3, 4, 5, 6, 7, 8, 9, 10, 11, 12, 13, 14, 15, 16, 17, 18, 19, 20, 21, 22, 23] [] rfl rfl (by decide) (by decide) (by decide) (hw_recv hK hP 0 rfl rfl) rfl hl.1 rfl (Nat.le_of_ble_eq_true rfl) d_Model_run_112 ⟨Nat.le_of_ble_eq_true rfl, Nat.le_of_ble_eq_true rfl⟩ (fun H locs hP hD hS => ?_)
              have hP : va_P (dC, dI) vwCl (w_M cI cJ cZ aM 0 VM1 VM2 VM3 VM4 VM5 WM0 NM0 NM1 NM2 LM0 LM1 LM2 LM3 LM4 LM5 LM6 LM7 LM8 LM9 LM10 LM11 LM12 y112.2.1 y102.2 y112.2.2.1 IM0 IM1 IM2_83 y112.2.2.2) H := hP
              have hD : va_D A (w_M cI cJ cZ aM 0 VM1 VM2 VM3 VM4 VM5 WM0 NM0 NM1 NM2 LM0 LM1 LM2 LM3 LM4 LM5 LM6 LM7 LM8 LM9 LM10 LM11 LM12 y112.2.1 y102.2 y112.2.2.1 IM0 IM1 IM2_83 y112.2.2.2) := hD
              refine lv_lload_n hx hb d_Model_run_115 rfl (lv_at hl 2 rfl) ?_
              refine hw_lcmp_ne (tgt := 124) hx hb d_Model_run_116 d_Model_run_117 (by decide) (fun c116 => ?_) (fun c116 => ?_)
              · replace hR := (if_neg c116).symm.trans hR
                refine lv_iconst (v := nI 0) hx hb d_Model_run_124 (by decide) ?_
                refine hw_zast (f := IM2_83) hx hb hK hP hD hS 19 2 rfl rfl (by decide) (by omega) (by decide) d_Model_run_125 (fun H locs hP hD hS => ?_)
                have hP : va_P (dC, dI) vwCl (w_M cI cJ cZ aM 0 VM1 VM2 VM3 VM4 VM5 WM0 NM0 NM1 NM2 LM0 LM1 LM2 LM3 LM4 LM5 LM6 LM7 LM8 LM9 LM10 LM11 LM12 y112.2.1 y102.2 y112.2.2.1 IM0 IM1 (upd IM2_83 x4_83 (nI 0)) y112.2.2.2) H := hP
                have hD : va_D A (w_M cI cJ cZ aM 0 VM1 VM2 VM3 VM4 VM5 WM0 NM0 NM1 NM2 LM0 LM1 LM2 LM3 LM4 LM5 LM6 LM7 LM8 LM9 LM10 LM11 LM12 y112.2.1 y102.2 y112.2.2.1 IM0 IM1 (upd IM2_83 x4_83 (nI 0)) y112.2.2.2) := hD
                refine lv_iinc (v := nI (x4_83 + 1)) (lv' := [(4, .int (nI (x4_83 + 1))), (0, .ref (aM 0)), (1, .int x1), (2, .long y48.1)]) hx hb d_Model_run_126 hl (k := 3) rfl (hw_inc _ 1) (by decide) rfl (fun ls hl => ?_)
                refine lv_goto (tgt := 83) hx hb d_Model_run_129 (by decide) ?_
                rw [hrec_83] at hR
                exact ih_83 (x4_83 + 1) y112.2.1 y102.2 y112.2.2.1 (upd IM2_83 x4_83 (nI 0)) y112.2.2.2 (by first | assumption | omega | exact hw_upb (by assumption) (by omega)) (by omega) H locs hP hD hS ls (lv_sub hl [1, 2, 3, 0] rfl) hR
              · replace hR := (if_pos c116).symm.trans hR
                refine lv_iconst (v := nI 1) hx hb d_Model_run_120 (by decide) ?_
                refine lv_goto (tgt := 125) hx hb d_Model_run_121 (by decide) ?_
                refine hw_zast (f := IM2_83) hx hb hK hP hD hS 19 2 rfl rfl (by decide) (by omega) (by decide) d_Model_run_125 (fun H locs hP hD hS => ?_)
                have hP : va_P (dC, dI) vwCl (w_M cI cJ cZ aM 0 VM1 VM2 VM3 VM4 VM5 WM0 NM0 NM1 NM2 LM0 LM1 LM2 LM3 LM4 LM5 LM6 LM7 LM8 LM9 LM10 LM11 LM12 y112.2.1 y102.2 y112.2.2.1 IM0 IM1 (upd IM2_83 x4_83 (nI 1)) y112.2.2.2) H := hP
                have hD : va_D A (w_M cI cJ cZ aM 0 VM1 VM2 VM3 VM4 VM5 WM0 NM0 NM1 NM2 LM0 LM1 LM2 LM3 LM4 LM5 LM6 LM7 LM8 LM9 LM10 LM11 LM12 y112.2.1 y102.2 y112.2.2.1 IM0 IM1 (upd IM2_83 x4_83 (nI 1)) y112.2.2.2) := hD
                refine lv_iinc (v := nI (x4_83 + 1)) (lv' := [(4, .int (nI (x4_83 + 1))), (0, .ref (aM 0)), (1, .int x1), (2, .long y48.1)]) hx hb d_Model_run_126 hl (k := 3) rfl (hw_inc _ 1) (by decide) rfl (fun ls hl => ?_)
                refine lv_goto (tgt := 83) hx hb d_Model_run_129 (by decide) ?_
                rw [hrec_83] at hR
                exact ih_83 (x4_83 + 1) y112.2.1 y102.2 y112.2.2.1 (upd IM2_83 x4_83 (nI 1)) y112.2.2.2 (by first | assumption | omega | exact hw_upb (by assumption) (by omega)) (by omega) H locs hP hD hS ls (lv_sub hl [1, 2, 3, 0] rfl) hR
        exact L_83 9 0 y48.2.1 y44.2 y48.2.2.1 IM2 y48.2.2.2 (by first | assumption | omega | exact hw_upb (by assumption) (by omega)) (by omega) H locs hP hD hS ls (lv_sub hl [2, 3, 1, 0] rfl) hR
      · replace hR := (if_pos c57).symm.trans hR
        refine lv_aload_n hx hb d_Model_run_61 rfl (lv_at hl 1 rfl) ?_
        refine lv_aload_n hx hb d_Model_run_62 rfl (lv_at hl 1 rfl) ?_
        obtain ⟨y63, hy63, hR⟩ := hw_bind hR
        have hM := c_Model_total l dC dI cI cJ cZ H.size aM 0 VM1 VM2 VM3 VM4 VM5 WM0 NM0 NM1 NM2 LM0 LM1 LM2 LM3 LM4 LM5 LM6 LM7 LM8 LM9 LM10 LM11 LM12 y48.2.1 y44.2 y48.2.2.1 IM0 IM1 IM2 y48.2.2.2 (by first | assumption | omega) (by first | assumption | omega) (by first | assumption | omega) (by first | assumption | omega) (by first | assumption | omega) (by first | assumption | omega)
        rw [hy63] at hM
        refine hw_callVl (As := []) (rest := [.ref (aM 0)]) (wr := ([] : va_W)) ⟨hx, hb, hml, hown, hG⟩ hM (hw_cwV 0 hG m_794 m_796 mp_30 m_7 m_797 rfl rfl (by decide +kernel) ⟨Nat.le_of_ble_eq_true rfl, Nat.le_of_ble_eq_true rfl⟩) hK hP hD hS hA [0, 1, 2, 3, 4, 5, 6, 7, 8, 9, 10, 11, 12, 13, 14, 15, 16, 17, 18, 19, 20, 21, 22, 23] [] rfl rfl (by decide) (by decide) (by decide) (hw_recv hK hP 0 rfl rfl) rfl hl.1 rfl (Nat.le_of_ble_eq_true rfl) d_Model_run_63 ⟨Nat.le_of_ble_eq_true rfl, Nat.le_of_ble_eq_true rfl⟩ (fun H locs hP hD hS => ?_)
        have hP : va_P (dC, dI) vwCl (w_M cI cJ cZ aM 0 VM1 VM2 VM3 VM4 VM5 WM0 NM0 NM1 NM2 LM0 LM1 LM2 LM3 LM4 LM5 LM6 LM7 LM8 LM9 LM10 LM11 LM12 y48.2.1 y44.2 y48.2.2.1 IM0 IM1 IM2 y48.2.2.2) H := hP
        have hD : va_D A (w_M cI cJ cZ aM 0 VM1 VM2 VM3 VM4 VM5 WM0 NM0 NM1 NM2 LM0 LM1 LM2 LM3 LM4 LM5 LM6 LM7 LM8 LM9 LM10 LM11 LM12 y48.2.1 y44.2 y48.2.2.1 IM0 IM1 IM2 y48.2.2.2) := hD
        refine va_put (D := (dC, dI)) (ci := 5) (v := .long y63) (ty := .long) (C := R_Model) (T := T_Model) (N := 30) hx hb hG in_Model ty_Model tok_Model nok_Model hown hK hP hD hS 0 rfl rfl 24 (by decide) (hG _ m_638) (fun _ h9 => h9) rfl (by decide +kernel) rfl rfl (Nat.le_of_ble_eq_true rfl) d_Model_run_66 (fun H locs hP hD hS => ?_)
        have hP : va_P (dC, dI) vwCl (w_M cI cJ cZ aM 0 VM1 VM2 VM3 VM4 VM5 y63 NM0 NM1 NM2 LM0 LM1 LM2 LM3 LM4 LM5 LM6 LM7 LM8 LM9 LM10 LM11 LM12 y48.2.1 y44.2 y48.2.2.1 IM0 IM1 IM2 y48.2.2.2) H := hP
        have hD : va_D A (w_M cI cJ cZ aM 0 VM1 VM2 VM3 VM4 VM5 y63 NM0 NM1 NM2 LM0 LM1 LM2 LM3 LM4 LM5 LM6 LM7 LM8 LM9 LM10 LM11 LM12 y48.2.1 y44.2 y48.2.2.1 IM0 IM1 IM2 y48.2.2.2) := hD
        refine lv_aload_n hx hb d_Model_run_69 rfl (lv_at hl 1 rfl) ?_
        obtain ⟨y70, hy70, hR⟩ := hw_bind hR
        have hM := c_Model_order l dC dI cI cJ cZ H.size aM 0 VM1 VM2 VM3 VM4 VM5 y63 NM0 NM1 NM2 LM0 LM1 LM2 LM3 LM4 LM5 LM6 LM7 LM8 LM9 LM10 LM11 LM12 y48.2.1 y44.2 y48.2.2.1 IM0 IM1 IM2 y48.2.2.2 (by first | assumption | omega) (by first | assumption | omega) (by first | assumption | omega) (by first | assumption | omega) (by first | assumption | omega) (by first | assumption | omega) pi1 (hdn.ord hnt.2.1) (hnt.2.2.sent hdn.2.2.2.2)
        rw [hy70] at hM
        refine hw_callVv (As := []) (rest := []) (wr := ([] : va_W)) ⟨hx, hb, hml, hown, hG⟩ hM (hw_cwV 0 hG m_802 m_804 mp_32 m_7 m_805 rfl rfl (by decide +kernel) ⟨Nat.le_of_ble_eq_true rfl, Nat.le_of_ble_eq_true rfl⟩) hK hP hD hS hA [0, 1, 2, 3, 4, 5, 6, 7, 8, 9, 10, 11, 12, 13, 14, 15, 16, 17, 18, 19, 20, 21, 22, 23] [] rfl rfl (by decide) (by decide) (by decide) (hw_recv hK hP 0 rfl rfl) rfl hl.1 rfl (Nat.le_of_ble_eq_true rfl) d_Model_run_70 ⟨Nat.le_of_ble_eq_true rfl, Nat.le_of_ble_eq_true rfl⟩ (fun H locs hP hD hS => ?_)
        have hP : va_P (dC, dI) vwCl (w_M cI cJ cZ aM 0 VM1 VM2 VM3 VM4 VM5 y63 NM0 NM1 NM2 LM0 LM1 LM2 LM3 LM4 LM5 LM6 LM7 LM8 LM9 LM10 LM11 y70.1 y70.2.1 y44.2 y70.2.2.1 IM0 IM1 IM2 y70.2.2.2) H := hP
        have hD : va_D A (w_M cI cJ cZ aM 0 VM1 VM2 VM3 VM4 VM5 y63 NM0 NM1 NM2 LM0 LM1 LM2 LM3 LM4 LM5 LM6 LM7 LM8 LM9 LM10 LM11 y70.1 y70.2.1 y44.2 y70.2.2.1 IM0 IM1 IM2 y70.2.2.2) := hD
        refine lv_aload_n hx hb d_Model_run_73 rfl (lv_at hl 1 rfl) ?_
        refine lv_iconst (v := nI 1) hx hb d_Model_run_74 (by decide) ?_
        refine va_put (D := (dC, dI)) (ci := 5) (v := .int (nI 1)) (ty := .int) (C := R_Model) (T := T_Model) (N := 30) hx hb hG in_Model ty_Model tok_Model nok_Model hown hK hP hD hS 0 rfl rfl 22 (by decide) (hG _ m_636) (fun _ h9 => h9) rfl (by decide +kernel) rfl rfl (Nat.le_of_ble_eq_true rfl) d_Model_run_75 (fun H locs hP hD hS => ?_)
        have hP : va_P (dC, dI) vwCl (w_M cI cJ cZ aM 0 VM1 VM2 VM3 VM4 1 y63 NM0 NM1 NM2 LM0 LM1 LM2 LM3 LM4 LM5 LM6 LM7 LM8 LM9 LM10 LM11 y70.1 y70.2.1 y44.2 y70.2.2.1 IM0 IM1 IM2 y70.2.2.2) H := hP
        have hD : va_D A (w_M cI cJ cZ aM 0 VM1 VM2 VM3 VM4 1 y63 NM0 NM1 NM2 LM0 LM1 LM2 LM3 LM4 LM5 LM6 LM7 LM8 LM9 LM10 LM11 y70.1 y70.2.1 y44.2 y70.2.2.1 IM0 IM1 IM2 y70.2.2.2) := hD
        refine lv_iconst (v := nI 0) hx hb d_Model_run_78 (by decide) ?_
        subst hR
        exact W.iret (v := nI 0) hx hb hr (fun t ht hW => ⟨⟨_, (), rfl, rfl, by rw [ht]; exact hP, va_K.moved hW.alike hK, hD⟩, hS.F ht⟩) hS.2.2 d_Model_run_79
    · replace hR := (if_neg c31).symm.trans hR
      refine lv_iconst (v := nI 0) hx hb d_Model_run_34 (by decide) ?_
      subst hR
      exact W.iret (v := nI 0) hx hb hr (fun t ht hW => ⟨⟨_, (), rfl, rfl, by rw [ht]; exact hP, va_K.moved hW.alike hK, hD⟩, hS.F ht⟩) hS.2.2 d_Model_run_35
  · replace hR := (if_neg c16).symm.trans hR
    refine lv_iconst (v := nI 1) hx hb d_Model_run_19 (by decide) ?_
    refine lv_goto (tgt := 24) hx hb d_Model_run_20 (by decide) ?_
    refine va_put (D := (dC, dI)) (ci := 5) (v := .int (nI 1)) (ty := .int) (C := R_Model) (T := T_Model) (N := 30) hx hb hG in_Model ty_Model tok_Model nok_Model hown hK hP hD hS 0 rfl rfl 0 (by decide) (hG _ m_614) (fun _ h9 => h9) rfl (by decide +kernel) rfl rfl (Nat.le_of_ble_eq_true rfl) d_Model_run_24 (fun H locs hP hD hS => ?_)
    have hP : va_P (dC, dI) vwCl (w_M cI cJ cZ aM 1 VM1 VM2 VM3 VM4 VM5 WM0 NM0 NM1 NM2 LM0 LM1 LM2 LM3 LM4 LM5 LM6 LM7 LM8 LM9 LM10 LM11 LM12 LM13 LM14 LM15 IM0 IM1 IM2 IM3) H := hP
    have hD : va_D A (w_M cI cJ cZ aM 1 VM1 VM2 VM3 VM4 VM5 WM0 NM0 NM1 NM2 LM0 LM1 LM2 LM3 LM4 LM5 LM6 LM7 LM8 LM9 LM10 LM11 LM12 LM13 LM14 LM15 IM0 IM1 IM2 IM3) := hD
    refine lv_aload_n hx hb d_Model_run_27 rfl (lv_at hl 0 rfl) ?_
    refine va_get (D := (dC, dI)) (ci := 5) (v := .int (nI 1)) (C := R_Model) (T := T_Model) (N := 30) hx hb hG in_Model hown hK hP 0 rfl rfl 0 (by decide) (hG _ m_614) (fun _ h9 => h9) rfl d_Model_run_28 ?_
    refine lv_if_le (tgt := 36) hx hb d_Model_run_31 (by decide) (fun c31 => ?_) (fun c31 => ?_)
    · replace hR := (if_pos c31).symm.trans hR
      exact absurd c31 (by decide)
    · replace hR := (if_neg c31).symm.trans hR
      refine lv_iconst (v := nI 0) hx hb d_Model_run_34 (by decide) ?_
      subst hR
      exact W.iret (v := nI 0) hx hb hr (fun t ht hW => ⟨⟨_, (), rfl, rfl, by rw [ht]; exact hP, va_K.moved hW.alike hK, hD⟩, hS.F ht⟩) hS.2.2 d_Model_run_35
def f_Model_differs (VM1 : Nat) (VM2 : Nat) (VM4 : Nat) (WM0 : Int64) (NM0 : Nat → Nat) (NM1 : Nat → Nat) (NM2 : Nat → Nat) (LM13 : Nat → Int64) (LM14 : Nat → Int64) (LM15 : Nat → Int64) (IM0 : Nat → Int32) (IM3 : Nat → Int32) (x1 : Int64) (x3 : Int32) : Int64 × (Nat → Int64) × (Nat → Int64) × (Nat → Int32) :=
  hh_bind (f_Model_sendAll LM13 LM14 LM15 IM3) (fun y1 => if y1.1 = x1 then (if x3 = (nI 1) then (if 1 = 0 then (0, y1.2.1, y1.2.2.1, y1.2.2.2) else (1, y1.2.1, y1.2.2.1, y1.2.2.2)) else (if 1 = 0 then (0, y1.2.1, y1.2.2.1, y1.2.2.2) else (hh_bind (f_Model_total VM1 VM2 VM4 NM0 NM1 NM2 y1.2.1 LM14 IM0) (fun y40 => (y40 - WM0, y1.2.1, y1.2.2.1, y1.2.2.2))))) else (if x3 = (nI 1) then (if 0 = 0 then (0, y1.2.1, y1.2.2.1, y1.2.2.2) else (1, y1.2.1, y1.2.2.1, y1.2.2.2)) else (if 0 = 0 then (0, y1.2.1, y1.2.2.1, y1.2.2.2) else (hh_bind (f_Model_total VM1 VM2 VM4 NM0 NM1 NM2 y1.2.1 LM14 IM0) (fun y40 => (y40 - WM0, y1.2.1, y1.2.2.1, y1.2.2.2))))))
set_option maxHeartbeats 4000000 in
set_option maxRecDepth 100000 in
theorem c_Model_differs (l : Launch) (dC : Nat → ClassId) (dI : Nat → Nat → Nat) (cI cJ cZ : ClassId) (sz : Nat) (aM : Nat → Nat) (VM0 : Nat) (VM1 : Nat) (VM2 : Nat) (VM3 : Nat) (VM4 : Nat) (VM5 : Nat) (WM0 : Int64) (NM0 : Nat → Nat) (NM1 : Nat → Nat) (NM2 : Nat → Nat) (LM0 : Nat → Int64) (LM1 : Nat → Int64) (LM2 : Nat → Int64) (LM3 : Nat → Int64) (LM4 : Nat → Int64) (LM5 : Nat → Int64) (LM6 : Nat → Int64) (LM7 : Nat → Int64) (LM8 : Nat → Int64) (LM9 : Nat → Int64) (LM10 : Nat → Int64) (LM11 : Nat → Int64) (LM12 : Nat → Int64) (LM13 : Nat → Int64) (LM14 : Nat → Int64) (LM15 : Nat → Int64) (IM0 : Nat → Int32) (IM1 : Nat → Int32) (IM2 : Nat → Int32) (IM3 : Nat → Int32) (x1 : Int64) (x3 : Int32) (m1 : VM1 ≤ 8) (m2 : VM2 ≤ 8) (m4 : VM4 ≤ 4) (mk4 : ∀ i, NM0 i < 4) (mcw : ∀ i, NM1 i < 12) (mfw : ∀ i, NM2 i < 12) (pi : Nat → Int) (hnet : hm_Net LM13 LM14 pi) : hh_Cl l y_Model_differs u_Model_differs ({ frames := 3, cells := 0, slots := 0, locals := 68 }) (dC, dI) vwCl [(cI, .int), (cJ, .long), (cZ, .boolean)] (w_M cI cJ cZ aM VM0 VM1 VM2 VM3 VM4 VM5 WM0 NM0 NM1 NM2 LM0 LM1 LM2 LM3 LM4 LM5 LM6 LM7 LM8 LM9 LM10 LM11 LM12 LM13 LM14 LM15 IM0 IM1 IM2 IM3) sz [.ref (aM 0), .long x1, .int x3] ((f_Model_differs VM1 VM2 VM4 WM0 NM0 NM1 NM2 LM13 LM14 LM15 IM0 IM3 x1 x3).1) (w_M cI cJ cZ aM VM0 VM1 VM2 VM3 VM4 VM5 WM0 NM0 NM1 NM2 LM0 LM1 LM2 LM3 LM4 LM5 LM6 LM7 LM8 LM9 LM10 LM11 LM12 ((f_Model_differs VM1 VM2 VM4 WM0 NM0 NM1 NM2 LM13 LM14 LM15 IM0 IM3 x1 x3).2.1) LM14 ((f_Model_differs VM1 VM2 VM4 WM0 NM0 NM1 NM2 LM13 LM14 LM15 IM0 IM3 x1 x3).2.2.1) IM0 IM1 IM2 ((f_Model_differs VM1 VM2 VM4 WM0 NM0 NM1 NM2 LM13 LM14 LM15 IM0 IM3 x1 x3).2.2.2)) 0 0 := by
  unfold hh_Cl
  refine Met.ofW (cc := b_Model_differs) (maxL := 5) (ret := (some .long)) (by decide) rfl ?_
  intro p e s m args below meth c s₁ B hml hv
  obtain ⟨rfl, hsz, hP, hK, hD0⟩ := hv
  have hx := B.exec
  have hb := B.bytes
  have hr := B.returns
  have hts := atoms_spec (ws := u_Model_differs) B.pre
  have hG : ∀ w ∈ wG, w.before ([.ref (aM 0), .long x1, .int x3]).toArray s = true := fun w h => hts w (List.mem_cons_of_mem _ h)
  have hown : s.vm.findClass R_Model = some m.cls := findClass_of_methodNamed B.named
  have hlocks := B.notSynchronized
  subst hsz
  have hD := hD0.self (sz := s.heap.size)
  generalize hAe : va_A (w_M cI cJ cZ aM VM0 VM1 VM2 VM3 VM4 VM5 WM0 NM0 NM1 NM2 LM0 LM1 LM2 LM3 LM4 LM5 LM6 LM7 LM8 LM9 LM10 LM11 LM12 LM13 LM14 LM15 IM0 IM1 IM2 IM3) s.heap.size = A at hD ⊢
  have hA : ∀ q : Nat, s.heap.size ≤ q → A q := fun q h => by rw [← hAe]; exact Or.inr h
  have hS : va_S A s.heap s.heap [] := va_S.rf
  have hl := lv_entry ([.ref (aM 0), .long x1, .int x3]) (n := 5) (Nat.le_of_ble_eq_true rfl)
  rw [lg_entry_eq]
  generalize (lg_sl ([.ref (aM 0), .long x1, .int x3]) ++ List.replicate (5 - (lg_sl ([.ref (aM 0), .long x1, .int x3])).length) Slot.unset).toArray = ls at hl ⊢
  have hl : lv_has ls 5 [(0, .ref (aM 0)), (1, .long x1), (3, .int x3)] := hl
  generalize hR : f_Model_differs VM1 VM2 VM4 WM0 NM0 NM1 NM2 LM13 LM14 LM15 IM0 IM3 x1 x3 = r0
  obtain ⟨H, locs, hHe, hle⟩ : ∃ (H : Heap) (locs : List Loc), s.heap = H ∧ [] = locs := ⟨_, _, rfl, rfl⟩
  have hP : va_P (dC, dI) vwCl (w_M cI cJ cZ aM VM0 VM1 VM2 VM3 VM4 VM5 WM0 NM0 NM1 NM2 LM0 LM1 LM2 LM3 LM4 LM5 LM6 LM7 LM8 LM9 LM10 LM11 LM12 LM13 LM14 LM15 IM0 IM1 IM2 IM3) H := by rw [← hHe]; exact hP
  have hS : va_S A s.heap H locs := by rw [← hHe, ← hle]; exact hS
  refine hw_start hHe hle ?_
  unfold f_Model_differs at hR
  refine lv_aload_n hx hb d_Model_differs_0 rfl (lv_at hl 0 rfl) ?_
  obtain ⟨y1, hy1, hR⟩ := hw_bind hR
  have hM := c_Model_sendAll l dC dI cI cJ cZ H.size aM VM0 VM1 VM2 VM3 VM4 VM5 WM0 NM0 NM1 NM2 LM0 LM1 LM2 LM3 LM4 LM5 LM6 LM7 LM8 LM9 LM10 LM11 LM12 LM13 LM14 LM15 IM0 IM1 IM2 IM3 pi hnet
  rw [hy1] at hM
  refine hw_callVl (As := []) (rest := []) (wr := ([] : va_W)) ⟨hx, hb, hml, hown, hG⟩ hM (hw_cwV 0 hG m_777 m_779 mp_26 m_7 m_780 rfl rfl (by decide +kernel) ⟨Nat.le_of_ble_eq_true rfl, Nat.le_of_ble_eq_true rfl⟩) hK hP hD hS hA [0, 1, 2, 3, 4, 5, 6, 7, 8, 9, 10, 11, 12, 13, 14, 15, 16, 17, 18, 19, 20, 21, 22, 23] [] rfl rfl (by decide) (by decide) (by decide) (hw_recv hK hP 0 rfl rfl) rfl hl.1 rfl (Nat.le_of_ble_eq_true rfl) d_Model_differs_1 ⟨Nat.le_of_ble_eq_true rfl, Nat.le_of_ble_eq_true rfl⟩ (fun H locs hP hD hS => ?_)
  have hP : va_P (dC, dI) vwCl (w_M cI cJ cZ aM VM0 VM1 VM2 VM3 VM4 VM5 WM0 NM0 NM1 NM2 LM0 LM1 LM2 LM3 LM4 LM5 LM6 LM7 LM8 LM9 LM10 LM11 LM12 y1.2.1 LM14 y1.2.2.1 IM0 IM1 IM2 y1.2.2.2) H := hP
  have hD : va_D A (w_M cI cJ cZ aM VM0 VM1 VM2 VM3 VM4 VM5 WM0 NM0 NM1 NM2 LM0 LM1 LM2 LM3 LM4 LM5 LM6 LM7 LM8 LM9 LM10 LM11 LM12 y1.2.1 LM14 y1.2.2.1 IM0 IM1 IM2 y1.2.2.2) := hD
  refine lv_lload_n hx hb d_Model_differs_4 rfl (lv_at hl 1 rfl) ?_
  refine hw_lcmp_ne (tgt := 13) hx hb d_Model_differs_5 d_Model_differs_6 (by decide) (fun c5 => ?_) (fun c5 => ?_)
  · replace hR := (if_neg c5).symm.trans hR
    refine lv_iconst (v := nI 0) hx hb d_Model_differs_13 (by decide) ?_
    refine lv_istore (lv' := [(4, .int (nI 0)), (0, .ref (aM 0)), (1, .long x1), (3, .int x3)]) hx hb d_Model_differs_14 hl (by decide) rfl (fun ls hl => ?_)
    refine lv_iload_n hx hb d_Model_differs_16 rfl (lv_at hl 3 rfl) ?_
    refine lv_iconst (v := nI 1) hx hb d_Model_differs_17 (by decide) ?_
    refine lv_icmp_ne (tgt := 34) hx hb d_Model_differs_18 (by decide) (fun c18 => ?_) (fun c18 => ?_)
    · replace hR := (if_neg c18).symm.trans hR
      refine lv_iload hx hb d_Model_differs_34 (lv_at hl 0 rfl) ?_
      refine hw_if_eq (tgt := 51) hx hb d_Model_differs_36 (by decide) (by omega) (fun c36 => ?_) (fun c36 => ?_)
      · replace hR := (if_pos c36).symm.trans hR
        refine lv_lconst (v := 0) hx hb d_Model_differs_51 (by decide) ?_
        subst hR
        exact W.lret (v := 0) hx hb hr (fun t ht hW => ⟨⟨_, (), rfl, rfl, by rw [ht]; exact hP, va_K.moved hW.alike hK, hD⟩, hS.F ht⟩) hS.2.2 d_Model_differs_52
      · replace hR := (if_neg c36).symm.trans hR
        refine lv_aload_n hx hb d_Model_differs_39 rfl (lv_at hl 1 rfl) ?_
        obtain ⟨y40, hy40, hR⟩ := hw_bind hR
        have hM := c_Model_total l dC dI cI cJ cZ H.size aM VM0 VM1 VM2 VM3 VM4 VM5 WM0 NM0 NM1 NM2 LM0 LM1 LM2 LM3 LM4 LM5 LM6 LM7 LM8 LM9 LM10 LM11 LM12 y1.2.1 LM14 y1.2.2.1 IM0 IM1 IM2 y1.2.2.2 (by first | assumption | omega) (by first | assumption | omega) (by first | assumption | omega) (by first | assumption | omega) (by first | assumption | omega) (by first | assumption | omega)
        rw [hy40] at hM
        refine hw_callVl (As := []) (rest := []) (wr := ([] : va_W)) ⟨hx, hb, hml, hown, hG⟩ hM (hw_cwV 0 hG m_794 m_796 mp_30 m_7 m_797 rfl rfl (by decide +kernel) ⟨Nat.le_of_ble_eq_true rfl, Nat.le_of_ble_eq_true rfl⟩) hK hP hD hS hA [0, 1, 2, 3, 4, 5, 6, 7, 8, 9, 10, 11, 12, 13, 14, 15, 16, 17, 18, 19, 20, 21, 22, 23] [] rfl rfl (by decide) (by decide) (by decide) (hw_recv hK hP 0 rfl rfl) rfl hl.1 rfl (Nat.le_of_ble_eq_true rfl) d_Model_differs_40 ⟨Nat.le_of_ble_eq_true rfl, Nat.le_of_ble_eq_true rfl⟩ (fun H locs hP hD hS => ?_)
        have hP : va_P (dC, dI) vwCl (w_M cI cJ cZ aM VM0 VM1 VM2 VM3 VM4 VM5 WM0 NM0 NM1 NM2 LM0 LM1 LM2 LM3 LM4 LM5 LM6 LM7 LM8 LM9 LM10 LM11 LM12 y1.2.1 LM14 y1.2.2.1 IM0 IM1 IM2 y1.2.2.2) H := hP
        have hD : va_D A (w_M cI cJ cZ aM VM0 VM1 VM2 VM3 VM4 VM5 WM0 NM0 NM1 NM2 LM0 LM1 LM2 LM3 LM4 LM5 LM6 LM7 LM8 LM9 LM10 LM11 LM12 y1.2.1 LM14 y1.2.2.1 IM0 IM1 IM2 y1.2.2.2) := hD
        refine lv_aload_n hx hb d_Model_differs_43 rfl (lv_at hl 1 rfl) ?_
        refine va_get (D := (dC, dI)) (ci := 5) (v := .long WM0) (C := R_Model) (T := T_Model) (N := 30) hx hb hG in_Model hown hK hP 0 rfl rfl 24 (by decide) (hG _ m_638) (fun _ h9 => h9) rfl d_Model_differs_44 ?_
        refine lv_lsub hx hb d_Model_differs_47 ?_
        refine lv_goto (tgt := 52) hx hb d_Model_differs_48 (by decide) ?_
        subst hR
        exact W.lret (v := y40 - WM0) hx hb hr (fun t ht hW => ⟨⟨_, (), rfl, rfl, by rw [ht]; exact hP, va_K.moved hW.alike hK, hD⟩, hS.F ht⟩) hS.2.2 d_Model_differs_52
    · replace hR := (if_pos c18).symm.trans hR
      refine lv_iload hx hb d_Model_differs_21 (lv_at hl 0 rfl) ?_
      refine hw_if_eq (tgt := 30) hx hb d_Model_differs_23 (by decide) (by omega) (fun c23 => ?_) (fun c23 => ?_)
      · replace hR := (if_pos c23).symm.trans hR
        refine lv_lconst (v := 0) hx hb d_Model_differs_30 (by decide) ?_
        refine lv_goto (tgt := 52) hx hb d_Model_differs_31 (by decide) ?_
        subst hR
        exact W.lret (v := 0) hx hb hr (fun t ht hW => ⟨⟨_, (), rfl, rfl, by rw [ht]; exact hP, va_K.moved hW.alike hK, hD⟩, hS.F ht⟩) hS.2.2 d_Model_differs_52
      · replace hR := (if_neg c23).symm.trans hR
        refine lv_lconst (v := 1) hx hb d_Model_differs_26 (by decide) ?_
        refine lv_goto (tgt := 52) hx hb d_Model_differs_27 (by decide) ?_
        subst hR
        exact W.lret (v := 1) hx hb hr (fun t ht hW => ⟨⟨_, (), rfl, rfl, by rw [ht]; exact hP, va_K.moved hW.alike hK, hD⟩, hS.F ht⟩) hS.2.2 d_Model_differs_52
  · replace hR := (if_pos c5).symm.trans hR
    refine lv_iconst (v := nI 1) hx hb d_Model_differs_9 (by decide) ?_
    refine lv_goto (tgt := 14) hx hb d_Model_differs_10 (by decide) ?_
    refine lv_istore (lv' := [(4, .int (nI 1)), (0, .ref (aM 0)), (1, .long x1), (3, .int x3)]) hx hb d_Model_differs_14 hl (by decide) rfl (fun ls hl => ?_)
    refine lv_iload_n hx hb d_Model_differs_16 rfl (lv_at hl 3 rfl) ?_
    refine lv_iconst (v := nI 1) hx hb d_Model_differs_17 (by decide) ?_
    refine lv_icmp_ne (tgt := 34) hx hb d_Model_differs_18 (by decide) (fun c18 => ?_) (fun c18 => ?_)
    · replace hR := (if_neg c18).symm.trans hR
      refine lv_iload hx hb d_Model_differs_34 (lv_at hl 0 rfl) ?_
      refine hw_if_eq (tgt := 51) hx hb d_Model_differs_36 (by decide) (by omega) (fun c36 => ?_) (fun c36 => ?_)
      · replace hR := (if_pos c36).symm.trans hR
        refine lv_lconst (v := 0) hx hb d_Model_differs_51 (by decide) ?_
        subst hR
        exact W.lret (v := 0) hx hb hr (fun t ht hW => ⟨⟨_, (), rfl, rfl, by rw [ht]; exact hP, va_K.moved hW.alike hK, hD⟩, hS.F ht⟩) hS.2.2 d_Model_differs_52
      · replace hR := (if_neg c36).symm.trans hR
        refine lv_aload_n hx hb d_Model_differs_39 rfl (lv_at hl 1 rfl) ?_
        obtain ⟨y40, hy40, hR⟩ := hw_bind hR
        have hM := c_Model_total l dC dI cI cJ cZ H.size aM VM0 VM1 VM2 VM3 VM4 VM5 WM0 NM0 NM1 NM2 LM0 LM1 LM2 LM3 LM4 LM5 LM6 LM7 LM8 LM9 LM10 LM11 LM12 y1.2.1 LM14 y1.2.2.1 IM0 IM1 IM2 y1.2.2.2 (by first | assumption | omega) (by first | assumption | omega) (by first | assumption | omega) (by first | assumption | omega) (by first | assumption | omega) (by first | assumption | omega)
        rw [hy40] at hM
        refine hw_callVl (As := []) (rest := []) (wr := ([] : va_W)) ⟨hx, hb, hml, hown, hG⟩ hM (hw_cwV 0 hG m_794 m_796 mp_30 m_7 m_797 rfl rfl (by decide +kernel) ⟨Nat.le_of_ble_eq_true rfl, Nat.le_of_ble_eq_true rfl⟩) hK hP hD hS hA [0, 1, 2, 3, 4, 5, 6, 7, 8, 9, 10, 11, 12, 13, 14, 15, 16, 17, 18, 19, 20, 21, 22, 23] [] rfl rfl (by decide) (by decide) (by decide) (hw_recv hK hP 0 rfl rfl) rfl hl.1 rfl (Nat.le_of_ble_eq_true rfl) d_Model_differs_40 ⟨Nat.le_of_ble_eq_true rfl, Nat.le_of_ble_eq_true rfl⟩ (fun H locs hP hD hS => ?_)
        have hP : va_P (dC, dI) vwCl (w_M cI cJ cZ aM VM0 VM1 VM2 VM3 VM4 VM5 WM0 NM0 NM1 NM2 LM0 LM1 LM2 LM3 LM4 LM5 LM6 LM7 LM8 LM9 LM10 LM11 LM12 y1.2.1 LM14 y1.2.2.1 IM0 IM1 IM2 y1.2.2.2) H := hP
        have hD : va_D A (w_M cI cJ cZ aM VM0 VM1 VM2 VM3 VM4 VM5 WM0 NM0 NM1 NM2 LM0 LM1 LM2 LM3 LM4 LM5 LM6 LM7 LM8 LM9 LM10 LM11 LM12 y1.2.1 LM14 y1.2.2.1 IM0 IM1 IM2 y1.2.2.2) := hD
        refine lv_aload_n hx hb d_Model_differs_43 rfl (lv_at hl 1 rfl) ?_
        refine va_get (D := (dC, dI)) (ci := 5) (v := .long WM0) (C := R_Model) (T := T_Model) (N := 30) hx hb hG in_Model hown hK hP 0 rfl rfl 24 (by decide) (hG _ m_638) (fun _ h9 => h9) rfl d_Model_differs_44 ?_
        refine lv_lsub hx hb d_Model_differs_47 ?_
        refine lv_goto (tgt := 52) hx hb d_Model_differs_48 (by decide) ?_
        subst hR
        exact W.lret (v := y40 - WM0) hx hb hr (fun t ht hW => ⟨⟨_, (), rfl, rfl, by rw [ht]; exact hP, va_K.moved hW.alike hK, hD⟩, hS.F ht⟩) hS.2.2 d_Model_differs_52
    · replace hR := (if_pos c18).symm.trans hR
      refine lv_iload hx hb d_Model_differs_21 (lv_at hl 0 rfl) ?_
      refine hw_if_eq (tgt := 30) hx hb d_Model_differs_23 (by decide) (by omega) (fun c23 => ?_) (fun c23 => ?_)
      · replace hR := (if_pos c23).symm.trans hR
        refine lv_lconst (v := 0) hx hb d_Model_differs_30 (by decide) ?_
        refine lv_goto (tgt := 52) hx hb d_Model_differs_31 (by decide) ?_
        subst hR
        exact W.lret (v := 0) hx hb hr (fun t ht hW => ⟨⟨_, (), rfl, rfl, by rw [ht]; exact hP, va_K.moved hW.alike hK, hD⟩, hS.F ht⟩) hS.2.2 d_Model_differs_52
      · replace hR := (if_neg c23).symm.trans hR
        refine lv_lconst (v := 1) hx hb d_Model_differs_26 (by decide) ?_
        refine lv_goto (tgt := 52) hx hb d_Model_differs_27 (by decide) ?_
        subst hR
        exact W.lret (v := 1) hx hb hr (fun t ht hW => ⟨⟨_, (), rfl, rfl, by rw [ht]; exact hP, va_K.moved hW.alike hK, hD⟩, hS.F ht⟩) hS.2.2 d_Model_differs_52
def f_Model_closure (VM1 : Nat) (VM2 : Nat) (VM3 : Nat) (VM4 : Nat) (VM5 : Nat) (WM0 : Int64) (NM0 : Nat → Nat) (NM1 : Nat → Nat) (NM2 : Nat → Nat) (LM0 : Nat → Int64) (LM1 : Nat → Int64) (LM2 : Nat → Int64) (LM3 : Nat → Int64) (LM4 : Nat → Int64) (LM5 : Nat → Int64) (LM6 : Nat → Int64) (LM7 : Nat → Int64) (LM8 : Nat → Int64) (LM9 : Nat → Int64) (LM10 : Nat → Int64) (LM11 : Nat → Int64) (LM13 : Nat → Int64) (LM14 : Nat → Int64) (LM15 : Nat → Int64) (IM0 : Nat → Int32) (IM1 : Nat → Int32) (IM3 : Nat → Int32) (x1 : Int32) (x2 : Int32) : Int64 × (Nat) × (Nat → Int64) × (Nat → Int64) × (Nat → Int64) × (Nat → Int32) :=
  if VM5 = 1 then (hh_bind (f_Model_isIn x1.toInt64 0 (((nI VM3).toInt64) - 1)) (fun y23 => if y23 = 0 then ((-1), 0, LM13, LM14, LM15, IM3) else (hh_bind (f_Model_isIn x2.toInt64 0 1) (fun y33 => if y33 = 0 then ((-1), 0, LM13, LM14, LM15, IM3) else (hh_bind (f_Model_lay VM1 VM2 VM3 VM4 NM0 NM1 NM2 LM0 LM1 LM2 LM3 LM4 LM5 LM6 LM7 LM8 LM9 LM10 LM11 LM13 LM14 IM0 IM1 (-2) (-2) 0 x1) (fun y50 => hh_bind (f_Model_wanted VM2 LM2) (fun y55 => hh_bind (f_Model_differs VM1 VM2 VM4 WM0 NM0 NM1 NM2 y50.1 y50.2 LM15 IM0 IM3 y55 x2) (fun y59 => (y59.1, 0, y59.2.1, y50.2, y59.2.2.1, y59.2.2.2))))))))) else ((-1), 0, LM13, LM14, LM15, IM3)
set_option maxHeartbeats 4000000 in
set_option maxRecDepth 100000 in
theorem c_Model_closure (l : Launch) (dC : Nat → ClassId) (dI : Nat → Nat → Nat) (cI cJ cZ : ClassId) (sz : Nat) (aM : Nat → Nat) (VM0 : Nat) (VM1 : Nat) (VM2 : Nat) (VM3 : Nat) (VM4 : Nat) (VM5 : Nat) (WM0 : Int64) (NM0 : Nat → Nat) (NM1 : Nat → Nat) (NM2 : Nat → Nat) (LM0 : Nat → Int64) (LM1 : Nat → Int64) (LM2 : Nat → Int64) (LM3 : Nat → Int64) (LM4 : Nat → Int64) (LM5 : Nat → Int64) (LM6 : Nat → Int64) (LM7 : Nat → Int64) (LM8 : Nat → Int64) (LM9 : Nat → Int64) (LM10 : Nat → Int64) (LM11 : Nat → Int64) (LM12 : Nat → Int64) (LM13 : Nat → Int64) (LM14 : Nat → Int64) (LM15 : Nat → Int64) (IM0 : Nat → Int32) (IM1 : Nat → Int32) (IM2 : Nat → Int32) (IM3 : Nat → Int32) (x1 : Int32) (x2 : Int32) (m1 : VM1 ≤ 8) (m2 : VM2 ≤ 8) (m3 : VM3 ≤ 6) (m4 : VM4 ≤ 4) (mk4 : ∀ i, NM0 i < 4) (mcw : ∀ i, NM1 i < 12) (mfw : ∀ i, NM2 i < 12) (msb : ∀ i, i < 4 → ¬ LM5 i = 0) (m5 : VM5 ≤ 2) (hvM : hv_M VM2 LM0 LM1 LM2 LM3 LM4 LM5 LM6 LM7 LM8 LM9 LM10 LM11) : hh_Cl l y_Model_closure u_Model_closure ({ frames := 4, cells := 0, slots := 0, locals := 92 }) (dC, dI) vwCl [(cI, .int), (cJ, .long), (cZ, .boolean)] (w_M cI cJ cZ aM VM0 VM1 VM2 VM3 VM4 VM5 WM0 NM0 NM1 NM2 LM0 LM1 LM2 LM3 LM4 LM5 LM6 LM7 LM8 LM9 LM10 LM11 LM12 LM13 LM14 LM15 IM0 IM1 IM2 IM3) sz [.ref (aM 0), .int x1, .int x2] ((f_Model_closure VM1 VM2 VM3 VM4 VM5 WM0 NM0 NM1 NM2 LM0 LM1 LM2 LM3 LM4 LM5 LM6 LM7 LM8 LM9 LM10 LM11 LM13 LM14 LM15 IM0 IM1 IM3 x1 x2).1) (w_M cI cJ cZ aM ((f_Model_closure VM1 VM2 VM3 VM4 VM5 WM0 NM0 NM1 NM2 LM0 LM1 LM2 LM3 LM4 LM5 LM6 LM7 LM8 LM9 LM10 LM11 LM13 LM14 LM15 IM0 IM1 IM3 x1 x2).2.1) VM1 VM2 VM3 VM4 VM5 WM0 NM0 NM1 NM2 LM0 LM1 LM2 LM3 LM4 LM5 LM6 LM7 LM8 LM9 LM10 LM11 LM12 ((f_Model_closure VM1 VM2 VM3 VM4 VM5 WM0 NM0 NM1 NM2 LM0 LM1 LM2 LM3 LM4 LM5 LM6 LM7 LM8 LM9 LM10 LM11 LM13 LM14 LM15 IM0 IM1 IM3 x1 x2).2.2.1) ((f_Model_closure VM1 VM2 VM3 VM4 VM5 WM0 NM0 NM1 NM2 LM0 LM1 LM2 LM3 LM4 LM5 LM6 LM7 LM8 LM9 LM10 LM11 LM13 LM14 LM15 IM0 IM1 IM3 x1 x2).2.2.2.1) ((f_Model_closure VM1 VM2 VM3 VM4 VM5 WM0 NM0 NM1 NM2 LM0 LM1 LM2 LM3 LM4 LM5 LM6 LM7 LM8 LM9 LM10 LM11 LM13 LM14 LM15 IM0 IM1 IM3 x1 x2).2.2.2.2.1) IM0 IM1 IM2 ((f_Model_closure VM1 VM2 VM3 VM4 VM5 WM0 NM0 NM1 NM2 LM0 LM1 LM2 LM3 LM4 LM5 LM6 LM7 LM8 LM9 LM10 LM11 LM13 LM14 LM15 IM0 IM1 IM3 x1 x2).2.2.2.2.2)) 0 0 := by
  unfold hh_Cl
  refine Met.ofW (cc := b_Model_closure) (maxL := 3) (ret := (some .long)) (by decide) rfl ?_
  intro p e s m args below meth c s₁ B hml hv
  obtain ⟨rfl, hsz, hP, hK, hD0⟩ := hv
  have hx := B.exec
  have hb := B.bytes
  have hr := B.returns
  have hts := atoms_spec (ws := u_Model_closure) B.pre
  have hG : ∀ w ∈ wG, w.before ([.ref (aM 0), .int x1, .int x2]).toArray s = true := fun w h => hts w (List.mem_cons_of_mem _ h)
  have hown : s.vm.findClass R_Model = some m.cls := findClass_of_methodNamed B.named
  have hlocks := B.notSynchronized
  subst hsz
  have hD := hD0.self (sz := s.heap.size)
  generalize hAe : va_A (w_M cI cJ cZ aM VM0 VM1 VM2 VM3 VM4 VM5 WM0 NM0 NM1 NM2 LM0 LM1 LM2 LM3 LM4 LM5 LM6 LM7 LM8 LM9 LM10 LM11 LM12 LM13 LM14 LM15 IM0 IM1 IM2 IM3) s.heap.size = A at hD ⊢
  have hA : ∀ q : Nat, s.heap.size ≤ q → A q := fun q h => by rw [← hAe]; exact Or.inr h
  have hS : va_S A s.heap s.heap [] := va_S.rf
  have hl := lv_entry ([.ref (aM 0), .int x1, .int x2]) (n := 3) (Nat.le_of_ble_eq_true rfl)
  rw [lg_entry_eq]
  generalize (lg_sl ([.ref (aM 0), .int x1, .int x2]) ++ List.replicate (3 - (lg_sl ([.ref (aM 0), .int x1, .int x2])).length) Slot.unset).toArray = ls at hl ⊢
  have hl : lv_has ls 3 [(0, .ref (aM 0)), (1, .int x1), (2, .int x2)] := hl
  generalize hR : f_Model_closure VM1 VM2 VM3 VM4 VM5 WM0 NM0 NM1 NM2 LM0 LM1 LM2 LM3 LM4 LM5 LM6 LM7 LM8 LM9 LM10 LM11 LM13 LM14 LM15 IM0 IM1 IM3 x1 x2 = r0
  obtain ⟨H, locs, hHe, hle⟩ : ∃ (H : Heap) (locs : List Loc), s.heap = H ∧ [] = locs := ⟨_, _, rfl, rfl⟩
  have hP : va_P (dC, dI) vwCl (w_M cI cJ cZ aM VM0 VM1 VM2 VM3 VM4 VM5 WM0 NM0 NM1 NM2 LM0 LM1 LM2 LM3 LM4 LM5 LM6 LM7 LM8 LM9 LM10 LM11 LM12 LM13 LM14 LM15 IM0 IM1 IM2 IM3) H := by rw [← hHe]; exact hP
  have hS : va_S A s.heap H locs := by rw [← hHe, ← hle]; exact hS
  refine hw_start hHe hle ?_
  unfold f_Model_closure at hR
  refine lv_aload_n hx hb d_Model_closure_0 rfl (lv_at hl 0 rfl) ?_
  refine lv_iconst (v := nI 0) hx hb d_Model_closure_1 (by decide) ?_
  refine va_put (D := (dC, dI)) (ci := 5) (v := .int (nI 0)) (ty := .int) (C := R_Model) (T := T_Model) (N := 30) hx hb hG in_Model ty_Model tok_Model nok_Model hown hK hP hD hS 0 rfl rfl 0 (by decide) (hG _ m_614) (fun _ h9 => h9) rfl (by decide +kernel) rfl rfl (Nat.le_of_ble_eq_true rfl) d_Model_closure_2 (fun H locs hP hD hS => ?_)
  have hP : va_P (dC, dI) vwCl (w_M cI cJ cZ aM 0 VM1 VM2 VM3 VM4 VM5 WM0 NM0 NM1 NM2 LM0 LM1 LM2 LM3 LM4 LM5 LM6 LM7 LM8 LM9 LM10 LM11 LM12 LM13 LM14 LM15 IM0 IM1 IM2 IM3) H := hP
  have hD : va_D A (w_M cI cJ cZ aM 0 VM1 VM2 VM3 VM4 VM5 WM0 NM0 NM1 NM2 LM0 LM1 LM2 LM3 LM4 LM5 LM6 LM7 LM8 LM9 LM10 LM11 LM12 LM13 LM14 LM15 IM0 IM1 IM2 IM3) := hD
  refine lv_aload_n hx hb d_Model_closure_5 rfl (lv_at hl 0 rfl) ?_
  refine va_get (D := (dC, dI)) (ci := 5) (v := .int (nI VM5)) (C := R_Model) (T := T_Model) (N := 30) hx hb hG in_Model hown hK hP 0 rfl rfl 22 (by decide) (hG _ m_636) (fun _ h9 => h9) rfl d_Model_closure_6 ?_
  refine lv_iconst (v := nI 1) hx hb d_Model_closure_9 (by decide) ?_
  refine hw_icmp_ne (tgt := 39) hx hb d_Model_closure_10 (by decide) (by omega) (by omega) (fun c10 => ?_) (fun c10 => ?_)
  · replace hR := (if_neg c10).symm.trans hR
    refine lv_ldc2 (v := (-1)) hx hb hown (hG _ m_806) d_Model_closure_39 ?_
    subst hR
    exact W.lret (v := (-1)) hx hb hr (fun t ht hW => ⟨⟨_, (), rfl, rfl, by rw [ht]; exact hP, va_K.moved hW.alike hK, hD⟩, hS.F ht⟩) hS.2.2 d_Model_closure_42
  · replace hR := (if_pos c10).symm.trans hR
    refine lv_iload_n hx hb d_Model_closure_13 rfl (lv_at hl 1 rfl) ?_
    refine lv_i2l (v := x1.toInt64) hx hb d_Model_closure_14 rfl ?_
    refine lv_lconst (v := 0) hx hb d_Model_closure_15 (by decide) ?_
    refine lv_aload_n hx hb d_Model_closure_16 rfl (lv_at hl 0 rfl) ?_
    refine va_get (D := (dC, dI)) (ci := 5) (v := .int (nI VM3)) (C := R_Model) (T := T_Model) (N := 30) hx hb hG in_Model hown hK hP 0 rfl rfl 13 (by decide) (hG _ m_627) (fun _ h9 => h9) rfl d_Model_closure_17 ?_
    refine lv_i2l (v := (nI VM3).toInt64) hx hb d_Model_closure_20 rfl ?_
    refine lv_lconst (v := 1) hx hb d_Model_closure_21 (by decide) ?_
    refine lv_lsub hx hb d_Model_closure_22 ?_
    obtain ⟨y23, hy23, hR⟩ := hw_bind hR
    have hM := c_Model_isIn l dC dI cI cJ cZ H.size x1.toInt64 0 (((nI VM3).toInt64) - 1)
    rw [hy23] at hM
    refine hw_callSi (As := [.long x1.toInt64, .long 0, .long (((nI VM3).toInt64) - 1)]) (rest := []) (wr := w_M cI cJ cZ aM 0 VM1 VM2 VM3 VM4 VM5 WM0 NM0 NM1 NM2 LM0 LM1 LM2 LM3 LM4 LM5 LM6 LM7 LM8 LM9 LM10 LM11 LM12 LM13 LM14 LM15 IM0 IM1 IM2 IM3) ⟨hx, hb, hml, hown, hG⟩ hM (hw_cwS 3 hG m_714 m_715 m_7 m_716 rfl rfl (by decide +kernel) ⟨Nat.le_of_ble_eq_true rfl, Nat.le_of_ble_eq_true rfl⟩) hK hP hD hS hA [] [0, 1, 2, 3, 4, 5, 6, 7, 8, 9, 10, 11, 12, 13, 14, 15, 16, 17, 18, 19, 20, 21, 22, 23] rfl rfl (by decide) (by decide) (by decide) rfl hl.1 rfl (Nat.le_of_ble_eq_true rfl) d_Model_closure_23 ⟨Nat.le_of_ble_eq_true rfl, Nat.le_of_ble_eq_true rfl⟩ (fun H locs hP hD hS => ?_)
    have hP : va_P (dC, dI) vwCl (w_M cI cJ cZ aM 0 VM1 VM2 VM3 VM4 VM5 WM0 NM0 NM1 NM2 LM0 LM1 LM2 LM3 LM4 LM5 LM6 LM7 LM8 LM9 LM10 LM11 LM12 LM13 LM14 LM15 IM0 IM1 IM2 IM3) H := hP
    have hD : va_D A (w_M cI cJ cZ aM 0 VM1 VM2 VM3 VM4 VM5 WM0 NM0 NM1 NM2 LM0 LM1 LM2 LM3 LM4 LM5 LM6 LM7 LM8 LM9 LM10 LM11 LM12 LM13 LM14 LM15 IM0 IM1 IM2 IM3) := hD
    have hbl23 := hm_in (x := x1) (n := VM3) (hi := ((nI VM3).toInt64) - 1) (hm_fm (by omega))
    rw [hy23] at hbl23
    refine lv_if_eq (tgt := 39) hx hb d_Model_closure_26 (by decide) (fun c26 => ?_) (fun c26 => ?_)
    · replace hR := (if_pos c26).symm.trans hR
      refine lv_ldc2 (v := (-1)) hx hb hown (hG _ m_806) d_Model_closure_39 ?_
      subst hR
      exact W.lret (v := (-1)) hx hb hr (fun t ht hW => ⟨⟨_, (), rfl, rfl, by rw [ht]; exact hP, va_K.moved hW.alike hK, hD⟩, hS.F ht⟩) hS.2.2 d_Model_closure_42
    · replace hR := (if_neg c26).symm.trans hR
      refine lv_iload_n hx hb d_Model_closure_29 rfl (lv_at hl 2 rfl) ?_
      refine lv_i2l (v := x2.toInt64) hx hb d_Model_closure_30 rfl ?_
      refine lv_lconst (v := 0) hx hb d_Model_closure_31 (by decide) ?_
      refine lv_lconst (v := 1) hx hb d_Model_closure_32 (by decide) ?_
      obtain ⟨y33, hy33, hR⟩ := hw_bind hR
      have hM := c_Model_isIn l dC dI cI cJ cZ H.size x2.toInt64 0 1
      rw [hy33] at hM
      refine hw_callSi (As := [.long x2.toInt64, .long 0, .long 1]) (rest := []) (wr := w_M cI cJ cZ aM 0 VM1 VM2 VM3 VM4 VM5 WM0 NM0 NM1 NM2 LM0 LM1 LM2 LM3 LM4 LM5 LM6 LM7 LM8 LM9 LM10 LM11 LM12 LM13 LM14 LM15 IM0 IM1 IM2 IM3) ⟨hx, hb, hml, hown, hG⟩ hM (hw_cwS 3 hG m_714 m_715 m_7 m_716 rfl rfl (by decide +kernel) ⟨Nat.le_of_ble_eq_true rfl, Nat.le_of_ble_eq_true rfl⟩) hK hP hD hS hA [] [0, 1, 2, 3, 4, 5, 6, 7, 8, 9, 10, 11, 12, 13, 14, 15, 16, 17, 18, 19, 20, 21, 22, 23] rfl rfl (by decide) (by decide) (by decide) rfl hl.1 rfl (Nat.le_of_ble_eq_true rfl) d_Model_closure_33 ⟨Nat.le_of_ble_eq_true rfl, Nat.le_of_ble_eq_true rfl⟩ (fun H locs hP hD hS => ?_)
      have hP : va_P (dC, dI) vwCl (w_M cI cJ cZ aM 0 VM1 VM2 VM3 VM4 VM5 WM0 NM0 NM1 NM2 LM0 LM1 LM2 LM3 LM4 LM5 LM6 LM7 LM8 LM9 LM10 LM11 LM12 LM13 LM14 LM15 IM0 IM1 IM2 IM3) H := hP
      have hD : va_D A (w_M cI cJ cZ aM 0 VM1 VM2 VM3 VM4 VM5 WM0 NM0 NM1 NM2 LM0 LM1 LM2 LM3 LM4 LM5 LM6 LM7 LM8 LM9 LM10 LM11 LM12 LM13 LM14 LM15 IM0 IM1 IM2 IM3) := hD
      have hbl33 := hm_in (x := x2) (n := 2) (hi := 1) (by decide)
      rw [hy33] at hbl33
      refine lv_if_ne (tgt := 43) hx hb d_Model_closure_36 (by decide) (fun c36 => ?_) (fun c36 => ?_)
      · replace hR := (if_neg c36).symm.trans hR
        refine lv_aload_n hx hb d_Model_closure_43 rfl (lv_at hl 0 rfl) ?_
        refine lv_bipush (v := (-2)) hx hb d_Model_closure_44 (by decide) ?_
        refine lv_bipush (v := (-2)) hx hb d_Model_closure_46 (by decide) ?_
        refine lv_lconst (v := 0) hx hb d_Model_closure_48 (by decide) ?_
        refine lv_iload_n hx hb d_Model_closure_49 rfl (lv_at hl 1 rfl) ?_
        obtain ⟨y50, hy50, hR⟩ := hw_bind hR
        have hM := c_Model_lay l dC dI cI cJ cZ H.size aM 0 VM1 VM2 VM3 VM4 VM5 WM0 NM0 NM1 NM2 LM0 LM1 LM2 LM3 LM4 LM5 LM6 LM7 LM8 LM9 LM10 LM11 LM12 LM13 LM14 LM15 IM0 IM1 IM2 IM3 (-2) (-2) 0 x1 (by first | assumption | omega) (by first | assumption | omega) (by first | assumption | omega) (by first | assumption | omega) (by first | assumption | omega) (by first | assumption | omega) (by first | assumption | omega) (by first | assumption | omega) (by first | assumption | omega)
        rw [hy50] at hM
        refine hw_callVv (As := [.int (-2), .int (-2), .long 0, .int x1]) (rest := []) (wr := ([] : va_W)) ⟨hx, hb, hml, hown, hG⟩ hM (hw_cwV 4 hG m_754 m_756 mp_21 m_7 m_757 rfl rfl (by decide +kernel) ⟨Nat.le_of_ble_eq_true rfl, Nat.le_of_ble_eq_true rfl⟩) hK hP hD hS hA [0, 1, 2, 3, 4, 5, 6, 7, 8, 9, 10, 11, 12, 13, 14, 15, 16, 17, 18, 19, 20, 21, 22, 23] [] rfl rfl (by decide) (by decide) (by decide) (hw_recv hK hP 0 rfl rfl) rfl hl.1 rfl (Nat.le_of_ble_eq_true rfl) d_Model_closure_50 ⟨Nat.le_of_ble_eq_true rfl, Nat.le_of_ble_eq_true rfl⟩ (fun H locs hP hD hS => ?_)
        have hP : va_P (dC, dI) vwCl (w_M cI cJ cZ aM 0 VM1 VM2 VM3 VM4 VM5 WM0 NM0 NM1 NM2 LM0 LM1 LM2 LM3 LM4 LM5 LM6 LM7 LM8 LM9 LM10 LM11 LM12 y50.1 y50.2 LM15 IM0 IM1 IM2 IM3) H := hP
        have hD : va_D A (w_M cI cJ cZ aM 0 VM1 VM2 VM3 VM4 VM5 WM0 NM0 NM1 NM2 LM0 LM1 LM2 LM3 LM4 LM5 LM6 LM7 LM8 LM9 LM10 LM11 LM12 y50.1 y50.2 LM15 IM0 IM1 IM2 IM3) := hD
        have hnt := hv_net (VM1 := VM1) (VM2 := VM2) (VM3 := VM3) (VM4 := VM4) (NM0 := NM0) (NM1 := NM1) (NM2 := NM2) (IM0 := IM0) (IM1 := IM1) (-2) (-2) 0 x1 LM13 LM14 hvM mk4 mfw m2 (by omega) ⟨by decide, by decide⟩ (fun s hs e => absurd e (hv_m2 (by omega)))
        rw [hy50] at hnt
        refine lv_aload_n hx hb d_Model_closure_53 rfl (lv_at hl 0 rfl) ?_
        refine lv_aload_n hx hb d_Model_closure_54 rfl (lv_at hl 0 rfl) ?_
        obtain ⟨y55, hy55, hR⟩ := hw_bind hR
        have hM := c_Model_wanted l dC dI cI cJ cZ H.size aM 0 VM1 VM2 VM3 VM4 VM5 WM0 NM0 NM1 NM2 LM0 LM1 LM2 LM3 LM4 LM5 LM6 LM7 LM8 LM9 LM10 LM11 LM12 y50.1 y50.2 LM15 IM0 IM1 IM2 IM3 (by first | assumption | omega)
        rw [hy55] at hM
        refine hw_callVl (As := []) (rest := [.ref (aM 0)]) (wr := ([] : va_W)) ⟨hx, hb, hml, hown, hG⟩ hM (hw_cwV 0 hG m_790 m_792 mp_29 m_7 m_793 rfl rfl (by decide +kernel) ⟨Nat.le_of_ble_eq_true rfl, Nat.le_of_ble_eq_true rfl⟩) hK hP hD hS hA [0, 1, 2, 3, 4, 5, 6, 7, 8, 9, 10, 11, 12, 13, 14, 15, 16, 17, 18, 19, 20, 21, 22, 23] [] rfl rfl (by decide) (by decide) (by decide) (hw_recv hK hP 0 rfl rfl) rfl hl.1 rfl (Nat.le_of_ble_eq_true rfl) d_Model_closure_55 ⟨Nat.le_of_ble_eq_true rfl, Nat.le_of_ble_eq_true rfl⟩ (fun H locs hP hD hS => ?_)
        have hP : va_P (dC, dI) vwCl (w_M cI cJ cZ aM 0 VM1 VM2 VM3 VM4 VM5 WM0 NM0 NM1 NM2 LM0 LM1 LM2 LM3 LM4 LM5 LM6 LM7 LM8 LM9 LM10 LM11 LM12 y50.1 y50.2 LM15 IM0 IM1 IM2 IM3) H := hP
        have hD : va_D A (w_M cI cJ cZ aM 0 VM1 VM2 VM3 VM4 VM5 WM0 NM0 NM1 NM2 LM0 LM1 LM2 LM3 LM4 LM5 LM6 LM7 LM8 LM9 LM10 LM11 LM12 y50.1 y50.2 LM15 IM0 IM1 IM2 IM3) := hD
        refine lv_iload_n hx hb d_Model_closure_58 rfl (lv_at hl 2 rfl) ?_
        obtain ⟨y59, hy59, hR⟩ := hw_bind hR
        have hM := c_Model_differs l dC dI cI cJ cZ H.size aM 0 VM1 VM2 VM3 VM4 VM5 WM0 NM0 NM1 NM2 LM0 LM1 LM2 LM3 LM4 LM5 LM6 LM7 LM8 LM9 LM10 LM11 LM12 y50.1 y50.2 LM15 IM0 IM1 IM2 IM3 y55 x2 (by first | assumption | omega) (by first | assumption | omega) (by first | assumption | omega) (by first | assumption | omega) (by first | assumption | omega) (by first | assumption | omega) (fun _ => 0) hnt.1
        rw [hy59] at hM
        refine hw_callVl (As := [.long y55, .int x2]) (rest := []) (wr := ([] : va_W)) ⟨hx, hb, hml, hown, hG⟩ hM (hw_cwV 2 hG m_820 m_822 mp_33 m_7 m_823 rfl rfl (by decide +kernel) ⟨Nat.le_of_ble_eq_true rfl, Nat.le_of_ble_eq_true rfl⟩) hK hP hD hS hA [0, 1, 2, 3, 4, 5, 6, 7, 8, 9, 10, 11, 12, 13, 14, 15, 16, 17, 18, 19, 20, 21, 22, 23] [] rfl rfl (by decide) (by decide) (by decide) (hw_recv hK hP 0 rfl rfl) rfl hl.1 rfl (Nat.le_of_ble_eq_true rfl) d_Model_closure_59 ⟨Nat.le_of_ble_eq_true rfl, Nat.le_of_ble_eq_true rfl⟩ (fun H locs hP hD hS => ?_)
        have hP : va_P (dC, dI) vwCl (w_M cI cJ cZ aM 0 VM1 VM2 VM3 VM4 VM5 WM0 NM0 NM1 NM2 LM0 LM1 LM2 LM3 LM4 LM5 LM6 LM7 LM8 LM9 LM10 LM11 LM12 y59.2.1 y50.2 y59.2.2.1 IM0 IM1 IM2 y59.2.2.2) H := hP
        have hD : va_D A (w_M cI cJ cZ aM 0 VM1 VM2 VM3 VM4 VM5 WM0 NM0 NM1 NM2 LM0 LM1 LM2 LM3 LM4 LM5 LM6 LM7 LM8 LM9 LM10 LM11 LM12 y59.2.1 y50.2 y59.2.2.1 IM0 IM1 IM2 y59.2.2.2) := hD
        subst hR
        exact W.lret (v := y59.1) hx hb hr (fun t ht hW => ⟨⟨_, (), rfl, rfl, by rw [ht]; exact hP, va_K.moved hW.alike hK, hD⟩, hS.F ht⟩) hS.2.2 d_Model_closure_62
      · replace hR := (if_pos c36).symm.trans hR
        refine lv_ldc2 (v := (-1)) hx hb hown (hG _ m_806) d_Model_closure_39 ?_
        subst hR
        exact W.lret (v := (-1)) hx hb hr (fun t ht hW => ⟨⟨_, (), rfl, rfl, by rw [ht]; exact hP, va_K.moved hW.alike hK, hD⟩, hS.F ht⟩) hS.2.2 d_Model_closure_42
def f_Model_dual (VM1 : Nat) (VM2 : Nat) (VM3 : Nat) (VM4 : Nat) (VM5 : Nat) (WM0 : Int64) (NM0 : Nat → Nat) (NM1 : Nat → Nat) (NM2 : Nat → Nat) (LM0 : Nat → Int64) (LM1 : Nat → Int64) (LM2 : Nat → Int64) (LM3 : Nat → Int64) (LM4 : Nat → Int64) (LM5 : Nat → Int64) (LM6 : Nat → Int64) (LM7 : Nat → Int64) (LM8 : Nat → Int64) (LM9 : Nat → Int64) (LM10 : Nat → Int64) (LM11 : Nat → Int64) (LM13 : Nat → Int64) (LM14 : Nat → Int64) (LM15 : Nat → Int64) (IM0 : Nat → Int32) (IM1 : Nat → Int32) (IM3 : Nat → Int32) (x1 : Int32) (x2 : Int32) (x3 : Int32) : Int64 × (Nat) × (Nat → Int64) × (Nat → Int64) × (Nat → Int64) × (Nat → Int32) :=
  if VM5 = 1 then (hh_bind (f_Model_isIn x3.toInt64 0 1) (fun y17 => if y17 = 0 then (if 0 = 0 then ((-1), 0, LM13, LM14, LM15, IM3) else (0, 0, LM13, LM14, LM15, IM3)) else (if x1 = 0 then (hh_bind (f_Model_isIn x2.toInt64 0 (((nI VM1).toInt64) - 1)) (fun y37 => if y37 = 0 then (if x1 = (nI 1) then (hh_bind (f_Model_isIn x2.toInt64 0 (((nI VM2).toInt64) - 1)) (fun y58 => if y58 = 0 then (if 0 = 0 then ((-1), 0, LM13, LM14, LM15, IM3) else (0, 0, LM13, LM14, LM15, IM3)) else (if 1 = 0 then ((-1), 0, LM13, LM14, LM15, IM3) else (if x1 = 0 then (0, 0, LM13, LM14, LM15, IM3) else (if x1 = 0 then (if x1 = (nI 1) then (hh_bind (f_Model_lay VM1 VM2 VM3 VM4 NM0 NM1 NM2 LM0 LM1 LM2 LM3 LM4 LM5 LM6 LM7 LM8 LM9 LM10 LM11 LM13 LM14 IM0 IM1 x2 x2 1 (-2)) (fun y119 => hh_bind (f_Model_wanted VM2 LM2) (fun y124 => hh_bind (f_Model_differs VM1 VM2 VM4 WM0 NM0 NM1 NM2 y119.1 y119.2 LM15 IM0 IM3 (y124 + x1.toInt64) x3) (fun y131 => (y131.1, 0, y131.2.1, y119.2, y131.2.2.1, y131.2.2.2))))) else (hh_bind (f_Model_lay VM1 VM2 VM3 VM4 NM0 NM1 NM2 LM0 LM1 LM2 LM3 LM4 LM5 LM6 LM7 LM8 LM9 LM10 LM11 LM13 LM14 IM0 IM1 x2 (-2) 1 (-2)) (fun y119 => hh_bind (f_Model_wanted VM2 LM2) (fun y124 => hh_bind (f_Model_differs VM1 VM2 VM4 WM0 NM0 NM1 NM2 y119.1 y119.2 LM15 IM0 IM3 (y124 + x1.toInt64) x3) (fun y131 => (y131.1, 0, y131.2.1, y119.2, y131.2.2.1, y131.2.2.2)))))) else (if x1 = (nI 1) then (hh_bind (f_Model_lay VM1 VM2 VM3 VM4 NM0 NM1 NM2 LM0 LM1 LM2 LM3 LM4 LM5 LM6 LM7 LM8 LM9 LM10 LM11 LM13 LM14 IM0 IM1 (-2) x2 1 (-2)) (fun y119 => hh_bind (f_Model_wanted VM2 LM2) (fun y124 => hh_bind (f_Model_differs VM1 VM2 VM4 WM0 NM0 NM1 NM2 y119.1 y119.2 LM15 IM0 IM3 (y124 + x1.toInt64) x3) (fun y131 => (y131.1, 0, y131.2.1, y119.2, y131.2.2.1, y131.2.2.2))))) else (hh_bind (f_Model_lay VM1 VM2 VM3 VM4 NM0 NM1 NM2 LM0 LM1 LM2 LM3 LM4 LM5 LM6 LM7 LM8 LM9 LM10 LM11 LM13 LM14 IM0 IM1 (-2) (-2) 1 (-2)) (fun y119 => hh_bind (f_Model_wanted VM2 LM2) (fun y124 => hh_bind (f_Model_differs VM1 VM2 VM4 WM0 NM0 NM1 NM2 y119.1 y119.2 LM15 IM0 IM3 (y124 + x1.toInt64) x3) (fun y131 => (y131.1, 0, y131.2.1, y119.2, y131.2.2.1, y131.2.2.2))))))))))) else (if 0 = 0 then ((-1), 0, LM13, LM14, LM15, IM3) else (0, 0, LM13, LM14, LM15, IM3))) else (if 1 = 0 then ((-1), 0, LM13, LM14, LM15, IM3) else (if x1 = 0 then (hh_bind (f_Model_gives NM0 LM0 LM4 LM5 x2.toNatClampNeg) (fun y82 => if y82 = 0 then ((-1), 0, LM13, LM14, LM15, IM3) else (if x1 = 0 then (if x1 = (nI 1) then (hh_bind (f_Model_lay VM1 VM2 VM3 VM4 NM0 NM1 NM2 LM0 LM1 LM2 LM3 LM4 LM5 LM6 LM7 LM8 LM9 LM10 LM11 LM13 LM14 IM0 IM1 (nI x2.toNatClampNeg) (nI x2.toNatClampNeg) 1 (-2)) (fun y119 => hh_bind (f_Model_wanted VM2 LM2) (fun y124 => hh_bind (f_Model_differs VM1 VM2 VM4 WM0 NM0 NM1 NM2 y119.1 y119.2 LM15 IM0 IM3 (y124 + x1.toInt64) x3) (fun y131 => (y131.1, 0, y131.2.1, y119.2, y131.2.2.1, y131.2.2.2))))) else (hh_bind (f_Model_lay VM1 VM2 VM3 VM4 NM0 NM1 NM2 LM0 LM1 LM2 LM3 LM4 LM5 LM6 LM7 LM8 LM9 LM10 LM11 LM13 LM14 IM0 IM1 (nI x2.toNatClampNeg) (-2) 1 (-2)) (fun y119 => hh_bind (f_Model_wanted VM2 LM2) (fun y124 => hh_bind (f_Model_differs VM1 VM2 VM4 WM0 NM0 NM1 NM2 y119.1 y119.2 LM15 IM0 IM3 (y124 + x1.toInt64) x3) (fun y131 => (y131.1, 0, y131.2.1, y119.2, y131.2.2.1, y131.2.2.2)))))) else (if x1 = (nI 1) then (hh_bind (f_Model_lay VM1 VM2 VM3 VM4 NM0 NM1 NM2 LM0 LM1 LM2 LM3 LM4 LM5 LM6 LM7 LM8 LM9 LM10 LM11 LM13 LM14 IM0 IM1 (-2) (nI x2.toNatClampNeg) 1 (-2)) (fun y119 => hh_bind (f_Model_wanted VM2 LM2) (fun y124 => hh_bind (f_Model_differs VM1 VM2 VM4 WM0 NM0 NM1 NM2 y119.1 y119.2 LM15 IM0 IM3 (y124 + x1.toInt64) x3) (fun y131 => (y131.1, 0, y131.2.1, y119.2, y131.2.2.1, y131.2.2.2))))) else (hh_bind (f_Model_lay VM1 VM2 VM3 VM4 NM0 NM1 NM2 LM0 LM1 LM2 LM3 LM4 LM5 LM6 LM7 LM8 LM9 LM10 LM11 LM13 LM14 IM0 IM1 (-2) (-2) 1 (-2)) (fun y119 => hh_bind (f_Model_wanted VM2 LM2) (fun y124 => hh_bind (f_Model_differs VM1 VM2 VM4 WM0 NM0 NM1 NM2 y119.1 y119.2 LM15 IM0 IM3 (y124 + x1.toInt64) x3) (fun y131 => (y131.1, 0, y131.2.1, y119.2, y131.2.2.1, y131.2.2.2))))))))) else (if x1 = 0 then (if x1 = (nI 1) then (hh_bind (f_Model_lay VM1 VM2 VM3 VM4 NM0 NM1 NM2 LM0 LM1 LM2 LM3 LM4 LM5 LM6 LM7 LM8 LM9 LM10 LM11 LM13 LM14 IM0 IM1 x2 x2 1 (-2)) (fun y119 => hh_bind (f_Model_wanted VM2 LM2) (fun y124 => hh_bind (f_Model_differs VM1 VM2 VM4 WM0 NM0 NM1 NM2 y119.1 y119.2 LM15 IM0 IM3 (y124 + x1.toInt64) x3) (fun y131 => (y131.1, 0, y131.2.1, y119.2, y131.2.2.1, y131.2.2.2))))) else (hh_bind (f_Model_lay VM1 VM2 VM3 VM4 NM0 NM1 NM2 LM0 LM1 LM2 LM3 LM4 LM5 LM6 LM7 LM8 LM9 LM10 LM11 LM13 LM14 IM0 IM1 x2 (-2) 1 (-2)) (fun y119 => hh_bind (f_Model_wanted VM2 LM2) (fun y124 => hh_bind (f_Model_differs VM1 VM2 VM4 WM0 NM0 NM1 NM2 y119.1 y119.2 LM15 IM0 IM3 (y124 + x1.toInt64) x3) (fun y131 => (y131.1, 0, y131.2.1, y119.2, y131.2.2.1, y131.2.2.2)))))) else (if x1 = (nI 1) then (hh_bind (f_Model_lay VM1 VM2 VM3 VM4 NM0 NM1 NM2 LM0 LM1 LM2 LM3 LM4 LM5 LM6 LM7 LM8 LM9 LM10 LM11 LM13 LM14 IM0 IM1 (-2) x2 1 (-2)) (fun y119 => hh_bind (f_Model_wanted VM2 LM2) (fun y124 => hh_bind (f_Model_differs VM1 VM2 VM4 WM0 NM0 NM1 NM2 y119.1 y119.2 LM15 IM0 IM3 (y124 + x1.toInt64) x3) (fun y131 => (y131.1, 0, y131.2.1, y119.2, y131.2.2.1, y131.2.2.2))))) else (hh_bind (f_Model_lay VM1 VM2 VM3 VM4 NM0 NM1 NM2 LM0 LM1 LM2 LM3 LM4 LM5 LM6 LM7 LM8 LM9 LM10 LM11 LM13 LM14 IM0 IM1 (-2) (-2) 1 (-2)) (fun y119 => hh_bind (f_Model_wanted VM2 LM2) (fun y124 => hh_bind (f_Model_differs VM1 VM2 VM4 WM0 NM0 NM1 NM2 y119.1 y119.2 LM15 IM0 IM3 (y124 + x1.toInt64) x3) (fun y131 => (y131.1, 0, y131.2.1, y119.2, y131.2.2.1, y131.2.2.2))))))))))) else (if x1 = (nI 1) then (hh_bind (f_Model_isIn x2.toInt64 0 (((nI VM2).toInt64) - 1)) (fun y58 => if y58 = 0 then (if 0 = 0 then ((-1), 0, LM13, LM14, LM15, IM3) else (0, 0, LM13, LM14, LM15, IM3)) else (if 1 = 0 then ((-1), 0, LM13, LM14, LM15, IM3) else (if x1 = 0 then (0, 0, LM13, LM14, LM15, IM3) else (if x1 = 0 then (if x1 = (nI 1) then (hh_bind (f_Model_lay VM1 VM2 VM3 VM4 NM0 NM1 NM2 LM0 LM1 LM2 LM3 LM4 LM5 LM6 LM7 LM8 LM9 LM10 LM11 LM13 LM14 IM0 IM1 x2 x2 1 (-2)) (fun y119 => hh_bind (f_Model_wanted VM2 LM2) (fun y124 => hh_bind (f_Model_differs VM1 VM2 VM4 WM0 NM0 NM1 NM2 y119.1 y119.2 LM15 IM0 IM3 (y124 + x1.toInt64) x3) (fun y131 => (y131.1, 0, y131.2.1, y119.2, y131.2.2.1, y131.2.2.2))))) else (hh_bind (f_Model_lay VM1 VM2 VM3 VM4 NM0 NM1 NM2 LM0 LM1 LM2 LM3 LM4 LM5 LM6 LM7 LM8 LM9 LM10 LM11 LM13 LM14 IM0 IM1 x2 (-2) 1 (-2)) (fun y119 => hh_bind (f_Model_wanted VM2 LM2) (fun y124 => hh_bind (f_Model_differs VM1 VM2 VM4 WM0 NM0 NM1 NM2 y119.1 y119.2 LM15 IM0 IM3 (y124 + x1.toInt64) x3) (fun y131 => (y131.1, 0, y131.2.1, y119.2, y131.2.2.1, y131.2.2.2)))))) else (if x1 = (nI 1) then (hh_bind (f_Model_lay VM1 VM2 VM3 VM4 NM0 NM1 NM2 LM0 LM1 LM2 LM3 LM4 LM5 LM6 LM7 LM8 LM9 LM10 LM11 LM13 LM14 IM0 IM1 (-2) x2 1 (-2)) (fun y119 => hh_bind (f_Model_wanted VM2 LM2) (fun y124 => hh_bind (f_Model_differs VM1 VM2 VM4 WM0 NM0 NM1 NM2 y119.1 y119.2 LM15 IM0 IM3 (y124 + x1.toInt64) x3) (fun y131 => (y131.1, 0, y131.2.1, y119.2, y131.2.2.1, y131.2.2.2))))) else (hh_bind (f_Model_lay VM1 VM2 VM3 VM4 NM0 NM1 NM2 LM0 LM1 LM2 LM3 LM4 LM5 LM6 LM7 LM8 LM9 LM10 LM11 LM13 LM14 IM0 IM1 (-2) (-2) 1 (-2)) (fun y119 => hh_bind (f_Model_wanted VM2 LM2) (fun y124 => hh_bind (f_Model_differs VM1 VM2 VM4 WM0 NM0 NM1 NM2 y119.1 y119.2 LM15 IM0 IM3 (y124 + x1.toInt64) x3) (fun y131 => (y131.1, 0, y131.2.1, y119.2, y131.2.2.1, y131.2.2.2))))))))))) else (if 0 = 0 then ((-1), 0, LM13, LM14, LM15, IM3) else (0, 0, LM13, LM14, LM15, IM3)))))) else (if 0 = 0 then ((-1), 0, LM13, LM14, LM15, IM3) else (0, 0, LM13, LM14, LM15, IM3))
set_option maxHeartbeats 4000000 in
set_option maxRecDepth 100000 in
theorem c_Model_dual (l : Launch) (dC : Nat → ClassId) (dI : Nat → Nat → Nat) (cI cJ cZ : ClassId) (sz : Nat) (aM : Nat → Nat) (VM0 : Nat) (VM1 : Nat) (VM2 : Nat) (VM3 : Nat) (VM4 : Nat) (VM5 : Nat) (WM0 : Int64) (NM0 : Nat → Nat) (NM1 : Nat → Nat) (NM2 : Nat → Nat) (LM0 : Nat → Int64) (LM1 : Nat → Int64) (LM2 : Nat → Int64) (LM3 : Nat → Int64) (LM4 : Nat → Int64) (LM5 : Nat → Int64) (LM6 : Nat → Int64) (LM7 : Nat → Int64) (LM8 : Nat → Int64) (LM9 : Nat → Int64) (LM10 : Nat → Int64) (LM11 : Nat → Int64) (LM12 : Nat → Int64) (LM13 : Nat → Int64) (LM14 : Nat → Int64) (LM15 : Nat → Int64) (IM0 : Nat → Int32) (IM1 : Nat → Int32) (IM2 : Nat → Int32) (IM3 : Nat → Int32) (x1 : Int32) (x2 : Int32) (x3 : Int32) (m1 : VM1 ≤ 8) (m2 : VM2 ≤ 8) (m3 : VM3 ≤ 6) (m4 : VM4 ≤ 4) (mk4 : ∀ i, NM0 i < 4) (mcw : ∀ i, NM1 i < 12) (mfw : ∀ i, NM2 i < 12) (msb : ∀ i, i < 4 → ¬ LM5 i = 0) (m5 : VM5 ≤ 2) (hvM : hv_M VM2 LM0 LM1 LM2 LM3 LM4 LM5 LM6 LM7 LM8 LM9 LM10 LM11) : hh_Cl l y_Model_dual u_Model_dual ({ frames := 4, cells := 0, slots := 0, locals := 92 }) (dC, dI) vwCl [(cI, .int), (cJ, .long), (cZ, .boolean)] (w_M cI cJ cZ aM VM0 VM1 VM2 VM3 VM4 VM5 WM0 NM0 NM1 NM2 LM0 LM1 LM2 LM3 LM4 LM5 LM6 LM7 LM8 LM9 LM10 LM11 LM12 LM13 LM14 LM15 IM0 IM1 IM2 IM3) sz [.ref (aM 0), .int x1, .int x2, .int x3] ((f_Model_dual VM1 VM2 VM3 VM4 VM5 WM0 NM0 NM1 NM2 LM0 LM1 LM2 LM3 LM4 LM5 LM6 LM7 LM8 LM9 LM10 LM11 LM13 LM14 LM15 IM0 IM1 IM3 x1 x2 x3).1) (w_M cI cJ cZ aM ((f_Model_dual VM1 VM2 VM3 VM4 VM5 WM0 NM0 NM1 NM2 LM0 LM1 LM2 LM3 LM4 LM5 LM6 LM7 LM8 LM9 LM10 LM11 LM13 LM14 LM15 IM0 IM1 IM3 x1 x2 x3).2.1) VM1 VM2 VM3 VM4 VM5 WM0 NM0 NM1 NM2 LM0 LM1 LM2 LM3 LM4 LM5 LM6 LM7 LM8 LM9 LM10 LM11 LM12 ((f_Model_dual VM1 VM2 VM3 VM4 VM5 WM0 NM0 NM1 NM2 LM0 LM1 LM2 LM3 LM4 LM5 LM6 LM7 LM8 LM9 LM10 LM11 LM13 LM14 LM15 IM0 IM1 IM3 x1 x2 x3).2.2.1) ((f_Model_dual VM1 VM2 VM3 VM4 VM5 WM0 NM0 NM1 NM2 LM0 LM1 LM2 LM3 LM4 LM5 LM6 LM7 LM8 LM9 LM10 LM11 LM13 LM14 LM15 IM0 IM1 IM3 x1 x2 x3).2.2.2.1) ((f_Model_dual VM1 VM2 VM3 VM4 VM5 WM0 NM0 NM1 NM2 LM0 LM1 LM2 LM3 LM4 LM5 LM6 LM7 LM8 LM9 LM10 LM11 LM13 LM14 LM15 IM0 IM1 IM3 x1 x2 x3).2.2.2.2.1) IM0 IM1 IM2 ((f_Model_dual VM1 VM2 VM3 VM4 VM5 WM0 NM0 NM1 NM2 LM0 LM1 LM2 LM3 LM4 LM5 LM6 LM7 LM8 LM9 LM10 LM11 LM13 LM14 LM15 IM0 IM1 IM3 x1 x2 x3).2.2.2.2.2)) 0 0 := by
  unfold hh_Cl
  refine Met.ofW (cc := b_Model_dual) (maxL := 5) (ret := (some .long)) (by decide) rfl ?_
  intro p e s m args below meth c s₁ B hml hv
  obtain ⟨rfl, hsz, hP, hK, hD0⟩ := hv
  have hx := B.exec
  have hb := B.bytes
  have hr := B.returns
  have hts := atoms_spec (ws := u_Model_dual) B.pre
  have hG : ∀ w ∈ wG, w.before ([.ref (aM 0), .int x1, .int x2, .int x3]).toArray s = true := fun w h => hts w (List.mem_cons_of_mem _ h)
  have hown : s.vm.findClass R_Model = some m.cls := findClass_of_methodNamed B.named
  have hlocks := B.notSynchronized
  subst hsz
  have hD := hD0.self (sz := s.heap.size)
  generalize hAe : va_A (w_M cI cJ cZ aM VM0 VM1 VM2 VM3 VM4 VM5 WM0 NM0 NM1 NM2 LM0 LM1 LM2 LM3 LM4 LM5 LM6 LM7 LM8 LM9 LM10 LM11 LM12 LM13 LM14 LM15 IM0 IM1 IM2 IM3) s.heap.size = A at hD ⊢
  have hA : ∀ q : Nat, s.heap.size ≤ q → A q := fun q h => by rw [← hAe]; exact Or.inr h
  have hS : va_S A s.heap s.heap [] := va_S.rf
  have hl := lv_entry ([.ref (aM 0), .int x1, .int x2, .int x3]) (n := 5) (Nat.le_of_ble_eq_true rfl)
  rw [lg_entry_eq]
  generalize (lg_sl ([.ref (aM 0), .int x1, .int x2, .int x3]) ++ List.replicate (5 - (lg_sl ([.ref (aM 0), .int x1, .int x2, .int x3])).length) Slot.unset).toArray = ls at hl ⊢
  have hl : lv_has ls 5 [(0, .ref (aM 0)), (1, .int x1), (2, .int x2), (3, .int x3)] := hl
  generalize hR : f_Model_dual VM1 VM2 VM3 VM4 VM5 WM0 NM0 NM1 NM2 LM0 LM1 LM2 LM3 LM4 LM5 LM6 LM7 LM8 LM9 LM10 LM11 LM13 LM14 LM15 IM0 IM1 IM3 x1 x2 x3 = r0
  obtain ⟨H, locs, hHe, hle⟩ : ∃ (H : Heap) (locs : List Loc), s.heap = H ∧ [] = locs := ⟨_, _, rfl, rfl⟩
  have hP : va_P (dC, dI) vwCl (w_M cI cJ cZ aM VM0 VM1 VM2 VM3 VM4 VM5 WM0 NM0 NM1 NM2 LM0 LM1 LM2 LM3 LM4 LM5 LM6 LM7 LM8 LM9 LM10 LM11 LM12 LM13 LM14 LM15 IM0 IM1 IM2 IM3) H := by rw [← hHe]; exact hP
  have hS : va_S A s.heap H locs := by rw [← hHe, ← hle]; exact hS
  refine hw_start hHe hle ?_
  unfold f_Model_dual at hR
  refine lv_aload_n hx hb d_Model_dual_0 rfl (lv_at hl 0 rfl) ?_
  refine lv_iconst (v := nI 0) hx hb d_Model_dual_1 (by decide) ?_
  refine va_put (D := (dC, dI)) (ci := 5) (v := .int (nI 0)) (ty := .int) (C := R_Model) (T := T_Model) (N := 30) hx hb hG in_Model ty_Model tok_Model nok_Model hown hK hP hD hS 0 rfl rfl 0 (by decide) (hG _ m_614) (fun _ h9 => h9) rfl (by decide +kernel) rfl rfl (Nat.le_of_ble_eq_true rfl) d_Model_dual_2 (fun H locs hP hD hS => ?_)
  have hP : va_P (dC, dI) vwCl (w_M cI cJ cZ aM 0 VM1 VM2 VM3 VM4 VM5 WM0 NM0 NM1 NM2 LM0 LM1 LM2 LM3 LM4 LM5 LM6 LM7 LM8 LM9 LM10 LM11 LM12 LM13 LM14 LM15 IM0 IM1 IM2 IM3) H := hP
  have hD : va_D A (w_M cI cJ cZ aM 0 VM1 VM2 VM3 VM4 VM5 WM0 NM0 NM1 NM2 LM0 LM1 LM2 LM3 LM4 LM5 LM6 LM7 LM8 LM9 LM10 LM11 LM12 LM13 LM14 LM15 IM0 IM1 IM2 IM3) := hD
  refine lv_aload_n hx hb d_Model_dual_5 rfl (lv_at hl 0 rfl) ?_
  refine va_get (D := (dC, dI)) (ci := 5) (v := .int (nI VM5)) (C := R_Model) (T := T_Model) (N := 30) hx hb hG in_Model hown hK hP 0 rfl rfl 22 (by decide) (hG _ m_636) (fun _ h9 => h9) rfl d_Model_dual_6 ?_
  refine lv_iconst (v := nI 1) hx hb d_Model_dual_9 (by decide) ?_
  refine hw_icmp_ne (tgt := 68) hx hb d_Model_dual_10 (by decide) (by omega) (by omega) (fun c10 => ?_) (fun c10 => ?_)
  · replace hR := (if_neg c10).symm.trans hR
    refine lv_iconst (v := nI 0) hx hb d_Model_dual_68 (by decide) ?_
    refine lv_istore (lv' := [(4, .int (nI 0)), (0, .ref (aM 0)), (1, .int x1), (2, .int x2), (3, .int x3)]) hx hb d_Model_dual_69 hl (by decide) rfl (fun ls hl => ?_)
    refine lv_iload hx hb d_Model_dual_71 (lv_at hl 0 rfl) ?_
    refine hw_if_eq (tgt := 90) hx hb d_Model_dual_73 (by decide) (by omega) (fun c73 => ?_) (fun c73 => ?_)
    · replace hR := (if_pos c73).symm.trans hR
      refine lv_ldc2 (v := (-1)) hx hb hown (hG _ m_806) d_Model_dual_90 ?_
      subst hR
      exact W.lret (v := (-1)) hx hb hr (fun t ht hW => ⟨⟨_, (), rfl, rfl, by rw [ht]; exact hP, va_K.moved hW.alike hK, hD⟩, hS.F ht⟩) hS.2.2 d_Model_dual_93
    · replace hR := (if_neg c73).symm.trans hR
      exact absurd rfl c73
  · replace hR := (if_pos c10).symm.trans hR
    refine lv_iload_n hx hb d_Model_dual_13 rfl (lv_at hl 3 rfl) ?_
    refine lv_i2l (v := x3.toInt64) hx hb d_Model_dual_14 rfl ?_
    refine lv_lconst (v := 0) hx hb d_Model_dual_15 (by decide) ?_
    refine lv_lconst (v := 1) hx hb d_Model_dual_16 (by decide) ?_
    obtain ⟨y17, hy17, hR⟩ := hw_bind hR
    have hM := c_Model_isIn l dC dI cI cJ cZ H.size x3.toInt64 0 1
    rw [hy17] at hM
    refine hw_callSi (As := [.long x3.toInt64, .long 0, .long 1]) (rest := []) (wr := w_M cI cJ cZ aM 0 VM1 VM2 VM3 VM4 VM5 WM0 NM0 NM1 NM2 LM0 LM1 LM2 LM3 LM4 LM5 LM6 LM7 LM8 LM9 LM10 LM11 LM12 LM13 LM14 LM15 IM0 IM1 IM2 IM3) ⟨hx, hb, hml, hown, hG⟩ hM (hw_cwS 3 hG m_714 m_715 m_7 m_716 rfl rfl (by decide +kernel) ⟨Nat.le_of_ble_eq_true rfl, Nat.le_of_ble_eq_true rfl⟩) hK hP hD hS hA [] [0, 1, 2, 3, 4, 5, 6, 7, 8, 9, 10, 11, 12, 13, 14, 15, 16, 17, 18, 19, 20, 21, 22, 23] rfl rfl (by decide) (by decide) (by decide) rfl hl.1 rfl (Nat.le_of_ble_eq_true rfl) d_Model_dual_17 ⟨Nat.le_of_ble_eq_true rfl, Nat.le_of_ble_eq_true rfl⟩ (fun H locs hP hD hS => ?_)
    have hP : va_P (dC, dI) vwCl (w_M cI cJ cZ aM 0 VM1 VM2 VM3 VM4 VM5 WM0 NM0 NM1 NM2 LM0 LM1 LM2 LM3 LM4 LM5 LM6 LM7 LM8 LM9 LM10 LM11 LM12 LM13 LM14 LM15 IM0 IM1 IM2 IM3) H := hP
    have hD : va_D A (w_M cI cJ cZ aM 0 VM1 VM2 VM3 VM4 VM5 WM0 NM0 NM1 NM2 LM0 LM1 LM2 LM3 LM4 LM5 LM6 LM7 LM8 LM9 LM10 LM11 LM12 LM13 LM14 LM15 IM0 IM1 IM2 IM3) := hD
    have hbl17 := hm_in (x := x3) (n := 2) (hi := 1) (by decide)
    rw [hy17] at hbl17
    refine lv_if_eq (tgt := 68) hx hb d_Model_dual_20 (by decide) (fun c20 => ?_) (fun c20 => ?_)
    · replace hR := (if_pos c20).symm.trans hR
      refine lv_iconst (v := nI 0) hx hb d_Model_dual_68 (by decide) ?_
      refine lv_istore (lv' := [(4, .int (nI 0)), (0, .ref (aM 0)), (1, .int x1), (2, .int x2), (3, .int x3)]) hx hb d_Model_dual_69 hl (by decide) rfl (fun ls hl => ?_)
      refine lv_iload hx hb d_Model_dual_71 (lv_at hl 0 rfl) ?_
      refine hw_if_eq (tgt := 90) hx hb d_Model_dual_73 (by decide) (by omega) (fun c73 => ?_) (fun c73 => ?_)
      · replace hR := (if_pos c73).symm.trans hR
        refine lv_ldc2 (v := (-1)) hx hb hown (hG _ m_806) d_Model_dual_90 ?_
        subst hR
        exact W.lret (v := (-1)) hx hb hr (fun t ht hW => ⟨⟨_, (), rfl, rfl, by rw [ht]; exact hP, va_K.moved hW.alike hK, hD⟩, hS.F ht⟩) hS.2.2 d_Model_dual_93
      · replace hR := (if_neg c73).symm.trans hR
        exact absurd rfl c73
    · replace hR := (if_neg c20).symm.trans hR
      refine lv_iload_n hx hb d_Model_dual_23 rfl (lv_at hl 1 rfl) ?_
      refine lv_if_ne (tgt := 43) hx hb d_Model_dual_24 (by decide) (fun c24 => ?_) (fun c24 => ?_)
      · replace hR := (if_neg c24).symm.trans hR
        refine lv_iload_n hx hb d_Model_dual_43 rfl (lv_at hl 1 rfl) ?_
        refine lv_iconst (v := nI 1) hx hb d_Model_dual_44 (by decide) ?_
        refine lv_icmp_ne (tgt := 68) hx hb d_Model_dual_45 (by decide) (fun c45 => ?_) (fun c45 => ?_)
        · replace hR := (if_neg c45).symm.trans hR
          refine lv_iconst (v := nI 0) hx hb d_Model_dual_68 (by decide) ?_
          refine lv_istore (lv' := [(4, .int (nI 0)), (0, .ref (aM 0)), (1, .int x1), (2, .int x2), (3, .int x3)]) hx hb d_Model_dual_69 hl (by decide) rfl (fun ls hl => ?_)
          refine lv_iload hx hb d_Model_dual_71 (lv_at hl 0 rfl) ?_
          refine hw_if_eq (tgt := 90) hx hb d_Model_dual_73 (by decide) (by omega) (fun c73 => ?_) (fun c73 => ?_)
          · replace hR := (if_pos c73).symm.trans hR
            refine lv_ldc2 (v := (-1)) hx hb hown (hG _ m_806) d_Model_dual_90 ?_
            subst hR
            exact W.lret (v := (-1)) hx hb hr (fun t ht hW => ⟨⟨_, (), rfl, rfl, by rw [ht]; exact hP, va_K.moved hW.alike hK, hD⟩, hS.F ht⟩) hS.2.2 d_Model_dual_93
          · replace hR := (if_neg c73).symm.trans hR
            exact absurd rfl c73
        · replace hR := (if_pos c45).symm.trans hR
          refine lv_iload_n hx hb d_Model_dual_48 rfl (lv_at hl 2 rfl) ?_
          refine lv_i2l (v := x2.toInt64) hx hb d_Model_dual_49 rfl ?_
          refine lv_lconst (v := 0) hx hb d_Model_dual_50 (by decide) ?_
          refine lv_aload_n hx hb d_Model_dual_51 rfl (lv_at hl 0 rfl) ?_
          refine va_get (D := (dC, dI)) (ci := 5) (v := .int (nI VM2)) (C := R_Model) (T := T_Model) (N := 30) hx hb hG in_Model hown hK hP 0 rfl rfl 6 (by decide) (hG _ m_620) (fun _ h9 => h9) rfl d_Model_dual_52 ?_
          refine lv_i2l (v := (nI VM2).toInt64) hx hb d_Model_dual_55 rfl ?_
          refine lv_lconst (v := 1) hx hb d_Model_dual_56 (by decide) ?_
          refine lv_lsub hx hb d_Model_dual_57 ?_
          obtain ⟨y58, hy58, hR⟩ := hw_bind hR
          have hM := c_Model_isIn l dC dI cI cJ cZ H.size x2.toInt64 0 (((nI VM2).toInt64) - 1)
          rw [hy58] at hM
          refine hw_callSi (As := [.long x2.toInt64, .long 0, .long (((nI VM2).toInt64) - 1)]) (rest := []) (wr := w_M cI cJ cZ aM 0 VM1 VM2 VM3 VM4 VM5 WM0 NM0 NM1 NM2 LM0 LM1 LM2 LM3 LM4 LM5 LM6 LM7 LM8 LM9 LM10 LM11 LM12 LM13 LM14 LM15 IM0 IM1 IM2 IM3) ⟨hx, hb, hml, hown, hG⟩ hM (hw_cwS 3 hG m_714 m_715 m_7 m_716 rfl rfl (by decide +kernel) ⟨Nat.le_of_ble_eq_true rfl, Nat.le_of_ble_eq_true rfl⟩) hK hP hD hS hA [] [0, 1, 2, 3, 4, 5, 6, 7, 8, 9, 10, 11, 12, 13, 14, 15, 16, 17, 18, 19, 20, 21, 22, 23] rfl rfl (by decide) (by decide) (by decide) rfl hl.1 rfl (Nat.le_of_ble_eq_true rfl) d_Model_dual_58 ⟨Nat.le_of_ble_eq_true rfl, Nat.le_of_ble_eq_true rfl⟩ (fun H locs hP hD hS => ?_)
          have hP : va_P (dC, dI) vwCl (w_M cI cJ cZ aM 0 VM1 VM2 VM3 VM4 VM5 WM0 NM0 NM1 NM2 LM0 LM1 LM2 LM3 LM4 LM5 LM6 LM7 LM8 LM9 LM10 LM11 LM12 LM13 LM14 LM15 IM0 IM1 IM2 IM3) H := hP
          have hD : va_D A (w_M cI cJ cZ aM 0 VM1 VM2 VM3 VM4 VM5 WM0 NM0 NM1 NM2 LM0 LM1 LM2 LM3 LM4 LM5 LM6 LM7 LM8 LM9 LM10 LM11 LM12 LM13 LM14 LM15 IM0 IM1 IM2 IM3) := hD
          have hbl58 := hm_in (x := x2) (n := VM2) (hi := ((nI VM2).toInt64) - 1) (hm_fm (by omega))
          rw [hy58] at hbl58
          refine lv_if_eq (tgt := 68) hx hb d_Model_dual_61 (by decide) (fun c61 => ?_) (fun c61 => ?_)
          · replace hR := (if_pos c61).symm.trans hR
            refine lv_iconst (v := nI 0) hx hb d_Model_dual_68 (by decide) ?_
            refine lv_istore (lv' := [(4, .int (nI 0)), (0, .ref (aM 0)), (1, .int x1), (2, .int x2), (3, .int x3)]) hx hb d_Model_dual_69 hl (by decide) rfl (fun ls hl => ?_)
            refine lv_iload hx hb d_Model_dual_71 (lv_at hl 0 rfl) ?_
            refine hw_if_eq (tgt := 90) hx hb d_Model_dual_73 (by decide) (by omega) (fun c73 => ?_) (fun c73 => ?_)
            · replace hR := (if_pos c73).symm.trans hR
              refine lv_ldc2 (v := (-1)) hx hb hown (hG _ m_806) d_Model_dual_90 ?_
              subst hR
              exact W.lret (v := (-1)) hx hb hr (fun t ht hW => ⟨⟨_, (), rfl, rfl, by rw [ht]; exact hP, va_K.moved hW.alike hK, hD⟩, hS.F ht⟩) hS.2.2 d_Model_dual_93
            · replace hR := (if_neg c73).symm.trans hR
              exact absurd rfl c73
          · replace hR := (if_neg c61).symm.trans hR
            refine lv_iconst (v := nI 1) hx hb d_Model_dual_64 (by decide) ?_
            refine lv_goto (tgt := 69) hx hb d_Model_dual_65 (by decide) ?_
            refine lv_istore (lv' := [(4, .int (nI 1)), (0, .ref (aM 0)), (1, .int x1), (2, .int x2), (3, .int x3)]) hx hb d_Model_dual_69 hl (by decide) rfl (fun ls hl => ?_)
            refine lv_iload hx hb d_Model_dual_71 (lv_at hl 0 rfl) ?_
            refine hw_if_eq (tgt := 90) hx hb d_Model_dual_73 (by decide) (by omega) (fun c73 => ?_) (fun c73 => ?_)
            · replace hR := (if_pos c73).symm.trans hR
              refine lv_ldc2 (v := (-1)) hx hb hown (hG _ m_806) d_Model_dual_90 ?_
              subst hR
              exact W.lret (v := (-1)) hx hb hr (fun t ht hW => ⟨⟨_, (), rfl, rfl, by rw [ht]; exact hP, va_K.moved hW.alike hK, hD⟩, hS.F ht⟩) hS.2.2 d_Model_dual_93
            · replace hR := (if_neg c73).symm.trans hR
              refine lv_iload_n hx hb d_Model_dual_76 rfl (lv_at hl 2 rfl) ?_
              refine lv_if_ne (tgt := 94) hx hb d_Model_dual_77 (by decide) (fun c77 => ?_) (fun c77 => ?_)
              · replace hR := (if_neg c77).symm.trans hR
                refine lv_aload_n hx hb d_Model_dual_94 rfl (lv_at hl 1 rfl) ?_
                refine lv_iload_n hx hb d_Model_dual_95 rfl (lv_at hl 2 rfl) ?_
                refine lv_if_ne (tgt := 103) hx hb d_Model_dual_96 (by decide) (fun c96 => ?_) (fun c96 => ?_)
                · replace hR := (if_neg c96).symm.trans hR
                  refine lv_bipush (v := (-2)) hx hb d_Model_dual_103 (by decide) ?_
                  refine lv_iload_n hx hb d_Model_dual_105 rfl (lv_at hl 2 rfl) ?_
                  refine lv_iconst (v := nI 1) hx hb d_Model_dual_106 (by decide) ?_
                  refine lv_icmp_ne (tgt := 114) hx hb d_Model_dual_107 (by decide) (fun c107 => ?_) (fun c107 => ?_)
                  · replace hR := (if_neg c107).symm.trans hR
                    refine lv_bipush (v := (-2)) hx hb d_Model_dual_114 (by decide) ?_
                    refine lv_lconst (v := 1) hx hb d_Model_dual_116 (by decide) ?_
                    refine lv_bipush (v := (-2)) hx hb d_Model_dual_117 (by decide) ?_
                    obtain ⟨y119, hy119, hR⟩ := hw_bind hR
                    have hM := c_Model_lay l dC dI cI cJ cZ H.size aM 0 VM1 VM2 VM3 VM4 VM5 WM0 NM0 NM1 NM2 LM0 LM1 LM2 LM3 LM4 LM5 LM6 LM7 LM8 LM9 LM10 LM11 LM12 LM13 LM14 LM15 IM0 IM1 IM2 IM3 (-2) (-2) 1 (-2) (by first | assumption | omega) (by first | assumption | omega) (by first | assumption | omega) (by first | assumption | omega) (by first | assumption | omega) (by first | assumption | omega) (by first | assumption | omega) (by first | assumption | omega) (by first | assumption | omega)
                    rw [hy119] at hM
                    refine hw_callVv (As := [.int (-2), .int (-2), .long 1, .int (-2)]) (rest := []) (wr := ([] : va_W)) ⟨hx, hb, hml, hown, hG⟩ hM (hw_cwV 4 hG m_754 m_756 mp_21 m_7 m_757 rfl rfl (by decide +kernel) ⟨Nat.le_of_ble_eq_true rfl, Nat.le_of_ble_eq_true rfl⟩) hK hP hD hS hA [0, 1, 2, 3, 4, 5, 6, 7, 8, 9, 10, 11, 12, 13, 14, 15, 16, 17, 18, 19, 20, 21, 22, 23] [] rfl rfl (by decide) (by decide) (by decide) (hw_recv hK hP 0 rfl rfl) rfl hl.1 rfl (Nat.le_of_ble_eq_true rfl) d_Model_dual_119 ⟨Nat.le_of_ble_eq_true rfl, Nat.le_of_ble_eq_true rfl⟩ (fun H locs hP hD hS => ?_)
                    have hP : va_P (dC, dI) vwCl (w_M cI cJ cZ aM 0 VM1 VM2 VM3 VM4 VM5 WM0 NM0 NM1 NM2 LM0 LM1 LM2 LM3 LM4 LM5 LM6 LM7 LM8 LM9 LM10 LM11 LM12 y119.1 y119.2 LM15 IM0 IM1 IM2 IM3) H := hP
                    have hD : va_D A (w_M cI cJ cZ aM 0 VM1 VM2 VM3 VM4 VM5 WM0 NM0 NM1 NM2 LM0 LM1 LM2 LM3 LM4 LM5 LM6 LM7 LM8 LM9 LM10 LM11 LM12 y119.1 y119.2 LM15 IM0 IM1 IM2 IM3) := hD
                    have hnt := hv_net (VM1 := VM1) (VM2 := VM2) (VM3 := VM3) (VM4 := VM4) (NM0 := NM0) (NM1 := NM1) (NM2 := NM2) (IM0 := IM0) (IM1 := IM1) (-2) (-2) 1 (-2) LM13 LM14 hvM mk4 mfw m2 (by omega) ⟨by decide, by decide⟩ (fun s hs e => absurd e (hv_m2 (by omega)))
                    rw [hy119] at hnt
                    refine lv_aload_n hx hb d_Model_dual_122 rfl (lv_at hl 1 rfl) ?_
                    refine lv_aload_n hx hb d_Model_dual_123 rfl (lv_at hl 1 rfl) ?_
                    obtain ⟨y124, hy124, hR⟩ := hw_bind hR
                    have hM := c_Model_wanted l dC dI cI cJ cZ H.size aM 0 VM1 VM2 VM3 VM4 VM5 WM0 NM0 NM1 NM2 LM0 LM1 LM2 LM3 LM4 LM5 LM6 LM7 LM8 LM9 LM10 LM11 LM12 y119.1 y119.2 LM15 IM0 IM1 IM2 IM3 (by first | assumption | omega)
                    rw [hy124] at hM
                    refine hw_callVl (As := []) (rest := [.ref (aM 0)]) (wr := ([] : va_W)) ⟨hx, hb, hml, hown, hG⟩ hM (hw_cwV 0 hG m_790 m_792 mp_29 m_7 m_793 rfl rfl (by decide +kernel) ⟨Nat.le_of_ble_eq_true rfl, Nat.le_of_ble_eq_true rfl⟩) hK hP hD hS hA [0, 1, 2, 3, 4, 5, 6, 7, 8, 9, 10, 11, 12, 13, 14, 15, 16, 17, 18, 19, 20, 21, 22, 23] [] rfl rfl (by decide) (by decide) (by decide) (hw_recv hK hP 0 rfl rfl) rfl hl.1 rfl (Nat.le_of_ble_eq_true rfl) d_Model_dual_124 ⟨Nat.le_of_ble_eq_true rfl, Nat.le_of_ble_eq_true rfl⟩ (fun H locs hP hD hS => ?_)
                    have hP : va_P (dC, dI) vwCl (w_M cI cJ cZ aM 0 VM1 VM2 VM3 VM4 VM5 WM0 NM0 NM1 NM2 LM0 LM1 LM2 LM3 LM4 LM5 LM6 LM7 LM8 LM9 LM10 LM11 LM12 y119.1 y119.2 LM15 IM0 IM1 IM2 IM3) H := hP
                    have hD : va_D A (w_M cI cJ cZ aM 0 VM1 VM2 VM3 VM4 VM5 WM0 NM0 NM1 NM2 LM0 LM1 LM2 LM3 LM4 LM5 LM6 LM7 LM8 LM9 LM10 LM11 LM12 y119.1 y119.2 LM15 IM0 IM1 IM2 IM3) := hD
                    refine lv_iload_n hx hb d_Model_dual_127 rfl (lv_at hl 2 rfl) ?_
                    refine lv_i2l (v := x1.toInt64) hx hb d_Model_dual_128 rfl ?_
                    refine lv_ladd hx hb d_Model_dual_129 ?_
                    refine lv_iload_n hx hb d_Model_dual_130 rfl (lv_at hl 4 rfl) ?_
                    obtain ⟨y131, hy131, hR⟩ := hw_bind hR
                    have hM := c_Model_differs l dC dI cI cJ cZ H.size aM 0 VM1 VM2 VM3 VM4 VM5 WM0 NM0 NM1 NM2 LM0 LM1 LM2 LM3 LM4 LM5 LM6 LM7 LM8 LM9 LM10 LM11 LM12 y119.1 y119.2 LM15 IM0 IM1 IM2 IM3 (y124 + x1.toInt64) x3 (by first | assumption | omega) (by first | assumption | omega) (by first | assumption | omega) (by first | assumption | omega) (by first | assumption | omega) (by first | assumption | omega) (fun _ => 0) hnt.1
                    rw [hy131] at hM
                    refine hw_callVl (As := [.long (y124 + x1.toInt64), .int x3]) (rest := []) (wr := ([] : va_W)) ⟨hx, hb, hml, hown, hG⟩ hM (hw_cwV 2 hG m_820 m_822 mp_33 m_7 m_823 rfl rfl (by decide +kernel) ⟨Nat.le_of_ble_eq_true rfl, Nat.le_of_ble_eq_true rfl⟩) hK hP hD hS hA [0, 1, 2, 3, 4, 5, 6, 7, 8, 9, 10, 11, 12, 13, 14, 15, 16, 17, 18, 19, 20, 21, 22, 23] [] rfl rfl (by decide) (by decide) (by decide) (hw_recv hK hP 0 rfl rfl) rfl hl.1 rfl (Nat.le_of_ble_eq_true rfl) d_Model_dual_131 ⟨Nat.le_of_ble_eq_true rfl, Nat.le_of_ble_eq_true rfl⟩ (fun H locs hP hD hS => ?_)
                    have hP : va_P (dC, dI) vwCl (w_M cI cJ cZ aM 0 VM1 VM2 VM3 VM4 VM5 WM0 NM0 NM1 NM2 LM0 LM1 LM2 LM3 LM4 LM5 LM6 LM7 LM8 LM9 LM10 LM11 LM12 y131.2.1 y119.2 y131.2.2.1 IM0 IM1 IM2 y131.2.2.2) H := hP
                    have hD : va_D A (w_M cI cJ cZ aM 0 VM1 VM2 VM3 VM4 VM5 WM0 NM0 NM1 NM2 LM0 LM1 LM2 LM3 LM4 LM5 LM6 LM7 LM8 LM9 LM10 LM11 LM12 y131.2.1 y119.2 y131.2.2.1 IM0 IM1 IM2 y131.2.2.2) := hD
                    subst hR
                    exact W.lret (v := y131.1) hx hb hr (fun t ht hW => ⟨⟨_, (), rfl, rfl, by rw [ht]; exact hP, va_K.moved hW.alike hK, hD⟩, hS.F ht⟩) hS.2.2 d_Model_dual_134
                  · replace hR := (if_pos c107).symm.trans hR
                    refine lv_iload_n hx hb d_Model_dual_110 rfl (lv_at hl 3 rfl) ?_
                    refine lv_goto (tgt := 116) hx hb d_Model_dual_111 (by decide) ?_
                    refine lv_lconst (v := 1) hx hb d_Model_dual_116 (by decide) ?_
                    refine lv_bipush (v := (-2)) hx hb d_Model_dual_117 (by decide) ?_
                    obtain ⟨y119, hy119, hR⟩ := hw_bind hR
                    have hM := c_Model_lay l dC dI cI cJ cZ H.size aM 0 VM1 VM2 VM3 VM4 VM5 WM0 NM0 NM1 NM2 LM0 LM1 LM2 LM3 LM4 LM5 LM6 LM7 LM8 LM9 LM10 LM11 LM12 LM13 LM14 LM15 IM0 IM1 IM2 IM3 (-2) x2 1 (-2) (by first | assumption | omega) (by first | assumption | omega) (by first | assumption | omega) (by first | assumption | omega) (by first | assumption | omega) (by first | assumption | omega) (by first | assumption | omega) (by first | assumption | omega) (by first | assumption | omega)
                    rw [hy119] at hM
                    refine hw_callVv (As := [.int (-2), .int x2, .long 1, .int (-2)]) (rest := []) (wr := ([] : va_W)) ⟨hx, hb, hml, hown, hG⟩ hM (hw_cwV 4 hG m_754 m_756 mp_21 m_7 m_757 rfl rfl (by decide +kernel) ⟨Nat.le_of_ble_eq_true rfl, Nat.le_of_ble_eq_true rfl⟩) hK hP hD hS hA [0, 1, 2, 3, 4, 5, 6, 7, 8, 9, 10, 11, 12, 13, 14, 15, 16, 17, 18, 19, 20, 21, 22, 23] [] rfl rfl (by decide) (by decide) (by decide) (hw_recv hK hP 0 rfl rfl) rfl hl.1 rfl (Nat.le_of_ble_eq_true rfl) d_Model_dual_119 ⟨Nat.le_of_ble_eq_true rfl, Nat.le_of_ble_eq_true rfl⟩ (fun H locs hP hD hS => ?_)
                    have hP : va_P (dC, dI) vwCl (w_M cI cJ cZ aM 0 VM1 VM2 VM3 VM4 VM5 WM0 NM0 NM1 NM2 LM0 LM1 LM2 LM3 LM4 LM5 LM6 LM7 LM8 LM9 LM10 LM11 LM12 y119.1 y119.2 LM15 IM0 IM1 IM2 IM3) H := hP
                    have hD : va_D A (w_M cI cJ cZ aM 0 VM1 VM2 VM3 VM4 VM5 WM0 NM0 NM1 NM2 LM0 LM1 LM2 LM3 LM4 LM5 LM6 LM7 LM8 LM9 LM10 LM11 LM12 y119.1 y119.2 LM15 IM0 IM1 IM2 IM3) := hD
                    have hnt := hv_net (VM1 := VM1) (VM2 := VM2) (VM3 := VM3) (VM4 := VM4) (NM0 := NM0) (NM1 := NM1) (NM2 := NM2) (IM0 := IM0) (IM1 := IM1) (-2) x2 1 (-2) LM13 LM14 hvM mk4 mfw m2 (by omega) ⟨by decide, by decide⟩ (fun s hs e => absurd e (hv_m2 (by omega)))
                    rw [hy119] at hnt
                    refine lv_aload_n hx hb d_Model_dual_122 rfl (lv_at hl 1 rfl) ?_
                    refine lv_aload_n hx hb d_Model_dual_123 rfl (lv_at hl 1 rfl) ?_
                    obtain ⟨y124, hy124, hR⟩ := hw_bind hR
                    have hM := c_Model_wanted l dC dI cI cJ cZ H.size aM 0 VM1 VM2 VM3 VM4 VM5 WM0 NM0 NM1 NM2 LM0 LM1 LM2 LM3 LM4 LM5 LM6 LM7 LM8 LM9 LM10 LM11 LM12 y119.1 y119.2 LM15 IM0 IM1 IM2 IM3 (by first | assumption | omega)
                    rw [hy124] at hM
                    refine hw_callVl (As := []) (rest := [.ref (aM 0)]) (wr := ([] : va_W)) ⟨hx, hb, hml, hown, hG⟩ hM (hw_cwV 0 hG m_790 m_792 mp_29 m_7 m_793 rfl rfl (by decide +kernel) ⟨Nat.le_of_ble_eq_true rfl, Nat.le_of_ble_eq_true rfl⟩) hK hP hD hS hA [0, 1, 2, 3, 4, 5, 6, 7, 8, 9, 10, 11, 12, 13, 14, 15, 16, 17, 18, 19, 20, 21, 22, 23] [] rfl rfl (by decide) (by decide) (by decide) (hw_recv hK hP 0 rfl rfl) rfl hl.1 rfl (Nat.le_of_ble_eq_true rfl) d_Model_dual_124 ⟨Nat.le_of_ble_eq_true rfl, Nat.le_of_ble_eq_true rfl⟩ (fun H locs hP hD hS => ?_)
                    have hP : va_P (dC, dI) vwCl (w_M cI cJ cZ aM 0 VM1 VM2 VM3 VM4 VM5 WM0 NM0 NM1 NM2 LM0 LM1 LM2 LM3 LM4 LM5 LM6 LM7 LM8 LM9 LM10 LM11 LM12 y119.1 y119.2 LM15 IM0 IM1 IM2 IM3) H := hP
                    have hD : va_D A (w_M cI cJ cZ aM 0 VM1 VM2 VM3 VM4 VM5 WM0 NM0 NM1 NM2 LM0 LM1 LM2 LM3 LM4 LM5 LM6 LM7 LM8 LM9 LM10 LM11 LM12 y119.1 y119.2 LM15 IM0 IM1 IM2 IM3) := hD
                    refine lv_iload_n hx hb d_Model_dual_127 rfl (lv_at hl 2 rfl) ?_
                    refine lv_i2l (v := x1.toInt64) hx hb d_Model_dual_128 rfl ?_
                    refine lv_ladd hx hb d_Model_dual_129 ?_
                    refine lv_iload_n hx hb d_Model_dual_130 rfl (lv_at hl 4 rfl) ?_
                    obtain ⟨y131, hy131, hR⟩ := hw_bind hR
                    have hM := c_Model_differs l dC dI cI cJ cZ H.size aM 0 VM1 VM2 VM3 VM4 VM5 WM0 NM0 NM1 NM2 LM0 LM1 LM2 LM3 LM4 LM5 LM6 LM7 LM8 LM9 LM10 LM11 LM12 y119.1 y119.2 LM15 IM0 IM1 IM2 IM3 (y124 + x1.toInt64) x3 (by first | assumption | omega) (by first | assumption | omega) (by first | assumption | omega) (by first | assumption | omega) (by first | assumption | omega) (by first | assumption | omega) (fun _ => 0) hnt.1
                    rw [hy131] at hM
                    refine hw_callVl (As := [.long (y124 + x1.toInt64), .int x3]) (rest := []) (wr := ([] : va_W)) ⟨hx, hb, hml, hown, hG⟩ hM (hw_cwV 2 hG m_820 m_822 mp_33 m_7 m_823 rfl rfl (by decide +kernel) ⟨Nat.le_of_ble_eq_true rfl, Nat.le_of_ble_eq_true rfl⟩) hK hP hD hS hA [0, 1, 2, 3, 4, 5, 6, 7, 8, 9, 10, 11, 12, 13, 14, 15, 16, 17, 18, 19, 20, 21, 22, 23] [] rfl rfl (by decide) (by decide) (by decide) (hw_recv hK hP 0 rfl rfl) rfl hl.1 rfl (Nat.le_of_ble_eq_true rfl) d_Model_dual_131 ⟨Nat.le_of_ble_eq_true rfl, Nat.le_of_ble_eq_true rfl⟩ (fun H locs hP hD hS => ?_)
                    have hP : va_P (dC, dI) vwCl (w_M cI cJ cZ aM 0 VM1 VM2 VM3 VM4 VM5 WM0 NM0 NM1 NM2 LM0 LM1 LM2 LM3 LM4 LM5 LM6 LM7 LM8 LM9 LM10 LM11 LM12 y131.2.1 y119.2 y131.2.2.1 IM0 IM1 IM2 y131.2.2.2) H := hP
                    have hD : va_D A (w_M cI cJ cZ aM 0 VM1 VM2 VM3 VM4 VM5 WM0 NM0 NM1 NM2 LM0 LM1 LM2 LM3 LM4 LM5 LM6 LM7 LM8 LM9 LM10 LM11 LM12 y131.2.1 y119.2 y131.2.2.1 IM0 IM1 IM2 y131.2.2.2) := hD
                    subst hR
                    exact W.lret (v := y131.1) hx hb hr (fun t ht hW => ⟨⟨_, (), rfl, rfl, by rw [ht]; exact hP, va_K.moved hW.alike hK, hD⟩, hS.F ht⟩) hS.2.2 d_Model_dual_134
                · replace hR := (if_pos c96).symm.trans hR
                  refine lv_iload_n hx hb d_Model_dual_99 rfl (lv_at hl 3 rfl) ?_
                  refine lv_goto (tgt := 105) hx hb d_Model_dual_100 (by decide) ?_
                  refine lv_iload_n hx hb d_Model_dual_105 rfl (lv_at hl 2 rfl) ?_
                  refine lv_iconst (v := nI 1) hx hb d_Model_dual_106 (by decide) ?_
                  refine lv_icmp_ne (tgt := 114) hx hb d_Model_dual_107 (by decide) (fun c107 => ?_) (fun c107 => ?_)
                  · replace hR := (if_neg c107).symm.trans hR
                    refine lv_bipush (v := (-2)) hx hb d_Model_dual_114 (by decide) ?_
                    refine lv_lconst (v := 1) hx hb d_Model_dual_116 (by decide) ?_
                    refine lv_bipush (v := (-2)) hx hb d_Model_dual_117 (by decide) ?_
                    obtain ⟨y119, hy119, hR⟩ := hw_bind hR
                    have hM := c_Model_lay l dC dI cI cJ cZ H.size aM 0 VM1 VM2 VM3 VM4 VM5 WM0 NM0 NM1 NM2 LM0 LM1 LM2 LM3 LM4 LM5 LM6 LM7 LM8 LM9 LM10 LM11 LM12 LM13 LM14 LM15 IM0 IM1 IM2 IM3 x2 (-2) 1 (-2) (by first | assumption | omega) (by first | assumption | omega) (by first | assumption | omega) (by first | assumption | omega) (by first | assumption | omega) (by first | assumption | omega) (by first | assumption | omega) (by first | assumption | omega) (by first | assumption | omega)
                    rw [hy119] at hM
                    refine hw_callVv (As := [.int x2, .int (-2), .long 1, .int (-2)]) (rest := []) (wr := ([] : va_W)) ⟨hx, hb, hml, hown, hG⟩ hM (hw_cwV 4 hG m_754 m_756 mp_21 m_7 m_757 rfl rfl (by decide +kernel) ⟨Nat.le_of_ble_eq_true rfl, Nat.le_of_ble_eq_true rfl⟩) hK hP hD hS hA [0, 1, 2, 3, 4, 5, 6, 7, 8, 9, 10, 11, 12, 13, 14, 15, 16, 17, 18, 19, 20, 21, 22, 23] [] rfl rfl (by decide) (by decide) (by decide) (hw_recv hK hP 0 rfl rfl) rfl hl.1 rfl (Nat.le_of_ble_eq_true rfl) d_Model_dual_119 ⟨Nat.le_of_ble_eq_true rfl, Nat.le_of_ble_eq_true rfl⟩ (fun H locs hP hD hS => ?_)
                    have hP : va_P (dC, dI) vwCl (w_M cI cJ cZ aM 0 VM1 VM2 VM3 VM4 VM5 WM0 NM0 NM1 NM2 LM0 LM1 LM2 LM3 LM4 LM5 LM6 LM7 LM8 LM9 LM10 LM11 LM12 y119.1 y119.2 LM15 IM0 IM1 IM2 IM3) H := hP
                    have hD : va_D A (w_M cI cJ cZ aM 0 VM1 VM2 VM3 VM4 VM5 WM0 NM0 NM1 NM2 LM0 LM1 LM2 LM3 LM4 LM5 LM6 LM7 LM8 LM9 LM10 LM11 LM12 y119.1 y119.2 LM15 IM0 IM1 IM2 IM3) := hD
                    have hnt := hv_net (VM1 := VM1) (VM2 := VM2) (VM3 := VM3) (VM4 := VM4) (NM0 := NM0) (NM1 := NM1) (NM2 := NM2) (IM0 := IM0) (IM1 := IM1) x2 (-2) 1 (-2) LM13 LM14 hvM mk4 mfw m2 (by omega) ⟨by decide, by decide⟩ (fun _ _ _ => absurd c96 c77)
                    rw [hy119] at hnt
                    refine lv_aload_n hx hb d_Model_dual_122 rfl (lv_at hl 1 rfl) ?_
                    refine lv_aload_n hx hb d_Model_dual_123 rfl (lv_at hl 1 rfl) ?_
                    obtain ⟨y124, hy124, hR⟩ := hw_bind hR
                    have hM := c_Model_wanted l dC dI cI cJ cZ H.size aM 0 VM1 VM2 VM3 VM4 VM5 WM0 NM0 NM1 NM2 LM0 LM1 LM2 LM3 LM4 LM5 LM6 LM7 LM8 LM9 LM10 LM11 LM12 y119.1 y119.2 LM15 IM0 IM1 IM2 IM3 (by first | assumption | omega)
                    rw [hy124] at hM
                    refine hw_callVl (As := []) (rest := [.ref (aM 0)]) (wr := ([] : va_W)) ⟨hx, hb, hml, hown, hG⟩ hM (hw_cwV 0 hG m_790 m_792 mp_29 m_7 m_793 rfl rfl (by decide +kernel) ⟨Nat.le_of_ble_eq_true rfl, Nat.le_of_ble_eq_true rfl⟩) hK hP hD hS hA [0, 1, 2, 3, 4, 5, 6, 7, 8, 9, 10, 11, 12, 13, 14, 15, 16, 17, 18, 19, 20, 21, 22, 23] [] rfl rfl (by decide) (by decide) (by decide) (hw_recv hK hP 0 rfl rfl) rfl hl.1 rfl (Nat.le_of_ble_eq_true rfl) d_Model_dual_124 ⟨Nat.le_of_ble_eq_true rfl, Nat.le_of_ble_eq_true rfl⟩ (fun H locs hP hD hS => ?_)
                    have hP : va_P (dC, dI) vwCl (w_M cI cJ cZ aM 0 VM1 VM2 VM3 VM4 VM5 WM0 NM0 NM1 NM2 LM0 LM1 LM2 LM3 LM4 LM5 LM6 LM7 LM8 LM9 LM10 LM11 LM12 y119.1 y119.2 LM15 IM0 IM1 IM2 IM3) H := hP
                    have hD : va_D A (w_M cI cJ cZ aM 0 VM1 VM2 VM3 VM4 VM5 WM0 NM0 NM1 NM2 LM0 LM1 LM2 LM3 LM4 LM5 LM6 LM7 LM8 LM9 LM10 LM11 LM12 y119.1 y119.2 LM15 IM0 IM1 IM2 IM3) := hD
                    refine lv_iload_n hx hb d_Model_dual_127 rfl (lv_at hl 2 rfl) ?_
                    refine lv_i2l (v := x1.toInt64) hx hb d_Model_dual_128 rfl ?_
                    refine lv_ladd hx hb d_Model_dual_129 ?_
                    refine lv_iload_n hx hb d_Model_dual_130 rfl (lv_at hl 4 rfl) ?_
                    obtain ⟨y131, hy131, hR⟩ := hw_bind hR
                    have hM := c_Model_differs l dC dI cI cJ cZ H.size aM 0 VM1 VM2 VM3 VM4 VM5 WM0 NM0 NM1 NM2 LM0 LM1 LM2 LM3 LM4 LM5 LM6 LM7 LM8 LM9 LM10 LM11 LM12 y119.1 y119.2 LM15 IM0 IM1 IM2 IM3 (y124 + x1.toInt64) x3 (by first | assumption | omega) (by first | assumption | omega) (by first | assumption | omega) (by first | assumption | omega) (by first | assumption | omega) (by first | assumption | omega) (fun _ => 0) hnt.1
                    rw [hy131] at hM
                    refine hw_callVl (As := [.long (y124 + x1.toInt64), .int x3]) (rest := []) (wr := ([] : va_W)) ⟨hx, hb, hml, hown, hG⟩ hM (hw_cwV 2 hG m_820 m_822 mp_33 m_7 m_823 rfl rfl (by decide +kernel) ⟨Nat.le_of_ble_eq_true rfl, Nat.le_of_ble_eq_true rfl⟩) hK hP hD hS hA [0, 1, 2, 3, 4, 5, 6, 7, 8, 9, 10, 11, 12, 13, 14, 15, 16, 17, 18, 19, 20, 21, 22, 23] [] rfl rfl (by decide) (by decide) (by decide) (hw_recv hK hP 0 rfl rfl) rfl hl.1 rfl (Nat.le_of_ble_eq_true rfl) d_Model_dual_131 ⟨Nat.le_of_ble_eq_true rfl, Nat.le_of_ble_eq_true rfl⟩ (fun H locs hP hD hS => ?_)
                    have hP : va_P (dC, dI) vwCl (w_M cI cJ cZ aM 0 VM1 VM2 VM3 VM4 VM5 WM0 NM0 NM1 NM2 LM0 LM1 LM2 LM3 LM4 LM5 LM6 LM7 LM8 LM9 LM10 LM11 LM12 y131.2.1 y119.2 y131.2.2.1 IM0 IM1 IM2 y131.2.2.2) H := hP
                    have hD : va_D A (w_M cI cJ cZ aM 0 VM1 VM2 VM3 VM4 VM5 WM0 NM0 NM1 NM2 LM0 LM1 LM2 LM3 LM4 LM5 LM6 LM7 LM8 LM9 LM10 LM11 LM12 y131.2.1 y119.2 y131.2.2.1 IM0 IM1 IM2 y131.2.2.2) := hD
                    subst hR
                    exact W.lret (v := y131.1) hx hb hr (fun t ht hW => ⟨⟨_, (), rfl, rfl, by rw [ht]; exact hP, va_K.moved hW.alike hK, hD⟩, hS.F ht⟩) hS.2.2 d_Model_dual_134
                  · replace hR := (if_pos c107).symm.trans hR
                    refine lv_iload_n hx hb d_Model_dual_110 rfl (lv_at hl 3 rfl) ?_
                    refine lv_goto (tgt := 116) hx hb d_Model_dual_111 (by decide) ?_
                    refine lv_lconst (v := 1) hx hb d_Model_dual_116 (by decide) ?_
                    refine lv_bipush (v := (-2)) hx hb d_Model_dual_117 (by decide) ?_
                    obtain ⟨y119, hy119, hR⟩ := hw_bind hR
                    have hM := c_Model_lay l dC dI cI cJ cZ H.size aM 0 VM1 VM2 VM3 VM4 VM5 WM0 NM0 NM1 NM2 LM0 LM1 LM2 LM3 LM4 LM5 LM6 LM7 LM8 LM9 LM10 LM11 LM12 LM13 LM14 LM15 IM0 IM1 IM2 IM3 x2 x2 1 (-2) (by first | assumption | omega) (by first | assumption | omega) (by first | assumption | omega) (by first | assumption | omega) (by first | assumption | omega) (by first | assumption | omega) (by first | assumption | omega) (by first | assumption | omega) (by first | assumption | omega)
                    rw [hy119] at hM
                    refine hw_callVv (As := [.int x2, .int x2, .long 1, .int (-2)]) (rest := []) (wr := ([] : va_W)) ⟨hx, hb, hml, hown, hG⟩ hM (hw_cwV 4 hG m_754 m_756 mp_21 m_7 m_757 rfl rfl (by decide +kernel) ⟨Nat.le_of_ble_eq_true rfl, Nat.le_of_ble_eq_true rfl⟩) hK hP hD hS hA [0, 1, 2, 3, 4, 5, 6, 7, 8, 9, 10, 11, 12, 13, 14, 15, 16, 17, 18, 19, 20, 21, 22, 23] [] rfl rfl (by decide) (by decide) (by decide) (hw_recv hK hP 0 rfl rfl) rfl hl.1 rfl (Nat.le_of_ble_eq_true rfl) d_Model_dual_119 ⟨Nat.le_of_ble_eq_true rfl, Nat.le_of_ble_eq_true rfl⟩ (fun H locs hP hD hS => ?_)
                    have hP : va_P (dC, dI) vwCl (w_M cI cJ cZ aM 0 VM1 VM2 VM3 VM4 VM5 WM0 NM0 NM1 NM2 LM0 LM1 LM2 LM3 LM4 LM5 LM6 LM7 LM8 LM9 LM10 LM11 LM12 y119.1 y119.2 LM15 IM0 IM1 IM2 IM3) H := hP
                    have hD : va_D A (w_M cI cJ cZ aM 0 VM1 VM2 VM3 VM4 VM5 WM0 NM0 NM1 NM2 LM0 LM1 LM2 LM3 LM4 LM5 LM6 LM7 LM8 LM9 LM10 LM11 LM12 y119.1 y119.2 LM15 IM0 IM1 IM2 IM3) := hD
                    have hnt := hv_net (VM1 := VM1) (VM2 := VM2) (VM3 := VM3) (VM4 := VM4) (NM0 := NM0) (NM1 := NM1) (NM2 := NM2) (IM0 := IM0) (IM1 := IM1) x2 x2 1 (-2) LM13 LM14 hvM mk4 mfw m2 (by omega) ⟨by decide, by decide⟩ (fun _ _ _ => absurd c96 c77)
                    rw [hy119] at hnt
                    refine lv_aload_n hx hb d_Model_dual_122 rfl (lv_at hl 1 rfl) ?_
                    refine lv_aload_n hx hb d_Model_dual_123 rfl (lv_at hl 1 rfl) ?_
                    obtain ⟨y124, hy124, hR⟩ := hw_bind hR
                    have hM := c_Model_wanted l dC dI cI cJ cZ H.size aM 0 VM1 VM2 VM3 VM4 VM5 WM0 NM0 NM1 NM2 LM0 LM1 LM2 LM3 LM4 LM5 LM6 LM7 LM8 LM9 LM10 LM11 LM12 y119.1 y119.2 LM15 IM0 IM1 IM2 IM3 (by first | assumption | omega)
                    rw [hy124] at hM
                    refine hw_callVl (As := []) (rest := [.ref (aM 0)]) (wr := ([] : va_W)) ⟨hx, hb, hml, hown, hG⟩ hM (hw_cwV 0 hG m_790 m_792 mp_29 m_7 m_793 rfl rfl (by decide +kernel) ⟨Nat.le_of_ble_eq_true rfl, Nat.le_of_ble_eq_true rfl⟩) hK hP hD hS hA [0, 1, 2, 3, 4, 5, 6, 7, 8, 9, 10, 11, 12, 13, 14, 15, 16, 17, 18, 19, 20, 21, 22, 23] [] rfl rfl (by decide) (by decide) (by decide) (hw_recv hK hP 0 rfl rfl) rfl hl.1 rfl (Nat.le_of_ble_eq_true rfl) d_Model_dual_124 ⟨Nat.le_of_ble_eq_true rfl, Nat.le_of_ble_eq_true rfl⟩ (fun H locs hP hD hS => ?_)
                    have hP : va_P (dC, dI) vwCl (w_M cI cJ cZ aM 0 VM1 VM2 VM3 VM4 VM5 WM0 NM0 NM1 NM2 LM0 LM1 LM2 LM3 LM4 LM5 LM6 LM7 LM8 LM9 LM10 LM11 LM12 y119.1 y119.2 LM15 IM0 IM1 IM2 IM3) H := hP
                    have hD : va_D A (w_M cI cJ cZ aM 0 VM1 VM2 VM3 VM4 VM5 WM0 NM0 NM1 NM2 LM0 LM1 LM2 LM3 LM4 LM5 LM6 LM7 LM8 LM9 LM10 LM11 LM12 y119.1 y119.2 LM15 IM0 IM1 IM2 IM3) := hD
                    refine lv_iload_n hx hb d_Model_dual_127 rfl (lv_at hl 2 rfl) ?_
                    refine lv_i2l (v := x1.toInt64) hx hb d_Model_dual_128 rfl ?_
                    refine lv_ladd hx hb d_Model_dual_129 ?_
                    refine lv_iload_n hx hb d_Model_dual_130 rfl (lv_at hl 4 rfl) ?_
                    obtain ⟨y131, hy131, hR⟩ := hw_bind hR
                    have hM := c_Model_differs l dC dI cI cJ cZ H.size aM 0 VM1 VM2 VM3 VM4 VM5 WM0 NM0 NM1 NM2 LM0 LM1 LM2 LM3 LM4 LM5 LM6 LM7 LM8 LM9 LM10 LM11 LM12 y119.1 y119.2 LM15 IM0 IM1 IM2 IM3 (y124 + x1.toInt64) x3 (by first | assumption | omega) (by first | assumption | omega) (by first | assumption | omega) (by first | assumption | omega) (by first | assumption | omega) (by first | assumption | omega) (fun _ => 0) hnt.1
                    rw [hy131] at hM
                    refine hw_callVl (As := [.long (y124 + x1.toInt64), .int x3]) (rest := []) (wr := ([] : va_W)) ⟨hx, hb, hml, hown, hG⟩ hM (hw_cwV 2 hG m_820 m_822 mp_33 m_7 m_823 rfl rfl (by decide +kernel) ⟨Nat.le_of_ble_eq_true rfl, Nat.le_of_ble_eq_true rfl⟩) hK hP hD hS hA [0, 1, 2, 3, 4, 5, 6, 7, 8, 9, 10, 11, 12, 13, 14, 15, 16, 17, 18, 19, 20, 21, 22, 23] [] rfl rfl (by decide) (by decide) (by decide) (hw_recv hK hP 0 rfl rfl) rfl hl.1 rfl (Nat.le_of_ble_eq_true rfl) d_Model_dual_131 ⟨Nat.le_of_ble_eq_true rfl, Nat.le_of_ble_eq_true rfl⟩ (fun H locs hP hD hS => ?_)
                    have hP : va_P (dC, dI) vwCl (w_M cI cJ cZ aM 0 VM1 VM2 VM3 VM4 VM5 WM0 NM0 NM1 NM2 LM0 LM1 LM2 LM3 LM4 LM5 LM6 LM7 LM8 LM9 LM10 LM11 LM12 y131.2.1 y119.2 y131.2.2.1 IM0 IM1 IM2 y131.2.2.2) H := hP
                    have hD : va_D A (w_M cI cJ cZ aM 0 VM1 VM2 VM3 VM4 VM5 WM0 NM0 NM1 NM2 LM0 LM1 LM2 LM3 LM4 LM5 LM6 LM7 LM8 LM9 LM10 LM11 LM12 y131.2.1 y119.2 y131.2.2.1 IM0 IM1 IM2 y131.2.2.2) := hD
                    subst hR
                    exact W.lret (v := y131.1) hx hb hr (fun t ht hW => ⟨⟨_, (), rfl, rfl, by rw [ht]; exact hP, va_K.moved hW.alike hK, hD⟩, hS.F ht⟩) hS.2.2 d_Model_dual_134
              · replace hR := (if_pos c77).symm.trans hR
                exact absurd (c45.symm.trans c77) (by decide)
      · replace hR := (if_pos c24).symm.trans hR
        refine lv_iload_n hx hb d_Model_dual_27 rfl (lv_at hl 2 rfl) ?_
        refine lv_i2l (v := x2.toInt64) hx hb d_Model_dual_28 rfl ?_
        refine lv_lconst (v := 0) hx hb d_Model_dual_29 (by decide) ?_
        refine lv_aload_n hx hb d_Model_dual_30 rfl (lv_at hl 0 rfl) ?_
        refine va_get (D := (dC, dI)) (ci := 5) (v := .int (nI VM1)) (C := R_Model) (T := T_Model) (N := 30) hx hb hG in_Model hown hK hP 0 rfl rfl 1 (by decide) (hG _ m_615) (fun _ h9 => h9) rfl d_Model_dual_31 ?_
        refine lv_i2l (v := (nI VM1).toInt64) hx hb d_Model_dual_34 rfl ?_
        refine lv_lconst (v := 1) hx hb d_Model_dual_35 (by decide) ?_
        refine lv_lsub hx hb d_Model_dual_36 ?_
        obtain ⟨y37, hy37, hR⟩ := hw_bind hR
        have hM := c_Model_isIn l dC dI cI cJ cZ H.size x2.toInt64 0 (((nI VM1).toInt64) - 1)
        rw [hy37] at hM
        refine hw_callSi (As := [.long x2.toInt64, .long 0, .long (((nI VM1).toInt64) - 1)]) (rest := []) (wr := w_M cI cJ cZ aM 0 VM1 VM2 VM3 VM4 VM5 WM0 NM0 NM1 NM2 LM0 LM1 LM2 LM3 LM4 LM5 LM6 LM7 LM8 LM9 LM10 LM11 LM12 LM13 LM14 LM15 IM0 IM1 IM2 IM3) ⟨hx, hb, hml, hown, hG⟩ hM (hw_cwS 3 hG m_714 m_715 m_7 m_716 rfl rfl (by decide +kernel) ⟨Nat.le_of_ble_eq_true rfl, Nat.le_of_ble_eq_true rfl⟩) hK hP hD hS hA [] [0, 1, 2, 3, 4, 5, 6, 7, 8, 9, 10, 11, 12, 13, 14, 15, 16, 17, 18, 19, 20, 21, 22, 23] rfl rfl (by decide) (by decide) (by decide) rfl hl.1 rfl (Nat.le_of_ble_eq_true rfl) d_Model_dual_37 ⟨Nat.le_of_ble_eq_true rfl, Nat.le_of_ble_eq_true rfl⟩ (fun H locs hP hD hS => ?_)
        have hP : va_P (dC, dI) vwCl (w_M cI cJ cZ aM 0 VM1 VM2 VM3 VM4 VM5 WM0 NM0 NM1 NM2 LM0 LM1 LM2 LM3 LM4 LM5 LM6 LM7 LM8 LM9 LM10 LM11 LM12 LM13 LM14 LM15 IM0 IM1 IM2 IM3) H := hP
        have hD : va_D A (w_M cI cJ cZ aM 0 VM1 VM2 VM3 VM4 VM5 WM0 NM0 NM1 NM2 LM0 LM1 LM2 LM3 LM4 LM5 LM6 LM7 LM8 LM9 LM10 LM11 LM12 LM13 LM14 LM15 IM0 IM1 IM2 IM3) := hD
        have hbl37 := hm_in (x := x2) (n := VM1) (hi := ((nI VM1).toInt64) - 1) (hm_fm (by omega))
        rw [hy37] at hbl37
        refine lv_if_ne (tgt := 64) hx hb d_Model_dual_40 (by decide) (fun c40 => ?_) (fun c40 => ?_)
        · replace hR := (if_neg c40).symm.trans hR
          refine lv_iconst (v := nI 1) hx hb d_Model_dual_64 (by decide) ?_
          refine lv_goto (tgt := 69) hx hb d_Model_dual_65 (by decide) ?_
          refine lv_istore (lv' := [(4, .int (nI 1)), (0, .ref (aM 0)), (1, .int x1), (2, .int x2), (3, .int x3)]) hx hb d_Model_dual_69 hl (by decide) rfl (fun ls hl => ?_)
          refine lv_iload hx hb d_Model_dual_71 (lv_at hl 0 rfl) ?_
          refine hw_if_eq (tgt := 90) hx hb d_Model_dual_73 (by decide) (by omega) (fun c73 => ?_) (fun c73 => ?_)
          · replace hR := (if_pos c73).symm.trans hR
            refine lv_ldc2 (v := (-1)) hx hb hown (hG _ m_806) d_Model_dual_90 ?_
            subst hR
            exact W.lret (v := (-1)) hx hb hr (fun t ht hW => ⟨⟨_, (), rfl, rfl, by rw [ht]; exact hP, va_K.moved hW.alike hK, hD⟩, hS.F ht⟩) hS.2.2 d_Model_dual_93
          · replace hR := (if_neg c73).symm.trans hR
            refine lv_iload_n hx hb d_Model_dual_76 rfl (lv_at hl 2 rfl) ?_
            refine lv_if_ne (tgt := 94) hx hb d_Model_dual_77 (by decide) (fun c77 => ?_) (fun c77 => ?_)
            · replace hR := (if_neg c77).symm.trans hR
              refine lv_aload_n hx hb d_Model_dual_94 rfl (lv_at hl 1 rfl) ?_
              refine lv_iload_n hx hb d_Model_dual_95 rfl (lv_at hl 2 rfl) ?_
              refine lv_if_ne (tgt := 103) hx hb d_Model_dual_96 (by decide) (fun c96 => ?_) (fun c96 => ?_)
              · replace hR := (if_neg c96).symm.trans hR
                refine lv_bipush (v := (-2)) hx hb d_Model_dual_103 (by decide) ?_
                refine lv_iload_n hx hb d_Model_dual_105 rfl (lv_at hl 2 rfl) ?_
                refine lv_iconst (v := nI 1) hx hb d_Model_dual_106 (by decide) ?_
                refine lv_icmp_ne (tgt := 114) hx hb d_Model_dual_107 (by decide) (fun c107 => ?_) (fun c107 => ?_)
                · replace hR := (if_neg c107).symm.trans hR
                  refine lv_bipush (v := (-2)) hx hb d_Model_dual_114 (by decide) ?_
                  refine lv_lconst (v := 1) hx hb d_Model_dual_116 (by decide) ?_
                  refine lv_bipush (v := (-2)) hx hb d_Model_dual_117 (by decide) ?_
                  obtain ⟨y119, hy119, hR⟩ := hw_bind hR
                  have hM := c_Model_lay l dC dI cI cJ cZ H.size aM 0 VM1 VM2 VM3 VM4 VM5 WM0 NM0 NM1 NM2 LM0 LM1 LM2 LM3 LM4 LM5 LM6 LM7 LM8 LM9 LM10 LM11 LM12 LM13 LM14 LM15 IM0 IM1 IM2 IM3 (-2) (-2) 1 (-2) (by first | assumption | omega) (by first | assumption | omega) (by first | assumption | omega) (by first | assumption | omega) (by first | assumption | omega) (by first | assumption | omega) (by first | assumption | omega) (by first | assumption | omega) (by first | assumption | omega)
                  rw [hy119] at hM
                  refine hw_callVv (As := [.int (-2), .int (-2), .long 1, .int (-2)]) (rest := []) (wr := ([] : va_W)) ⟨hx, hb, hml, hown, hG⟩ hM (hw_cwV 4 hG m_754 m_756 mp_21 m_7 m_757 rfl rfl (by decide +kernel) ⟨Nat.le_of_ble_eq_true rfl, Nat.le_of_ble_eq_true rfl⟩) hK hP hD hS hA [0, 1, 2, 3, 4, 5, 6, 7, 8, 9, 10, 11, 12, 13, 14, 15, 16, 17, 18, 19, 20, 21, 22, 23] [] rfl rfl (by decide) (by decide) (by decide) (hw_recv hK hP 0 rfl rfl) rfl hl.1 rfl (Nat.le_of_ble_eq_true rfl) d_Model_dual_119 ⟨Nat.le_of_ble_eq_true rfl, Nat.le_of_ble_eq_true rfl⟩ (fun H locs hP hD hS => ?_)
                  have hP : va_P (dC, dI) vwCl (w_M cI cJ cZ aM 0 VM1 VM2 VM3 VM4 VM5 WM0 NM0 NM1 NM2 LM0 LM1 LM2 LM3 LM4 LM5 LM6 LM7 LM8 LM9 LM10 LM11 LM12 y119.1 y119.2 LM15 IM0 IM1 IM2 IM3) H := hP
                  have hD : va_D A (w_M cI cJ cZ aM 0 VM1 VM2 VM3 VM4 VM5 WM0 NM0 NM1 NM2 LM0 LM1 LM2 LM3 LM4 LM5 LM6 LM7 LM8 LM9 LM10 LM11 LM12 y119.1 y119.2 LM15 IM0 IM1 IM2 IM3) := hD
                  have hnt := hv_net (VM1 := VM1) (VM2 := VM2) (VM3 := VM3) (VM4 := VM4) (NM0 := NM0) (NM1 := NM1) (NM2 := NM2) (IM0 := IM0) (IM1 := IM1) (-2) (-2) 1 (-2) LM13 LM14 hvM mk4 mfw m2 (by omega) ⟨by decide, by decide⟩ (fun s hs e => absurd e (hv_m2 (by omega)))
                  rw [hy119] at hnt
                  refine lv_aload_n hx hb d_Model_dual_122 rfl (lv_at hl 1 rfl) ?_
                  refine lv_aload_n hx hb d_Model_dual_123 rfl (lv_at hl 1 rfl) ?_
                  obtain ⟨y124, hy124, hR⟩ := hw_bind hR
                  have hM := c_Model_wanted l dC dI cI cJ cZ H.size aM 0 VM1 VM2 VM3 VM4 VM5 WM0 NM0 NM1 NM2 LM0 LM1 LM2 LM3 LM4 LM5 LM6 LM7 LM8 LM9 LM10 LM11 LM12 y119.1 y119.2 LM15 IM0 IM1 IM2 IM3 (by first | assumption | omega)
                  rw [hy124] at hM
                  refine hw_callVl (As := []) (rest := [.ref (aM 0)]) (wr := ([] : va_W)) ⟨hx, hb, hml, hown, hG⟩ hM (hw_cwV 0 hG m_790 m_792 mp_29 m_7 m_793 rfl rfl (by decide +kernel) ⟨Nat.le_of_ble_eq_true rfl, Nat.le_of_ble_eq_true rfl⟩) hK hP hD hS hA [0, 1, 2, 3, 4, 5, 6, 7, 8, 9, 10, 11, 12, 13, 14, 15, 16, 17, 18, 19, 20, 21, 22, 23] [] rfl rfl (by decide) (by decide) (by decide) (hw_recv hK hP 0 rfl rfl) rfl hl.1 rfl (Nat.le_of_ble_eq_true rfl) d_Model_dual_124 ⟨Nat.le_of_ble_eq_true rfl, Nat.le_of_ble_eq_true rfl⟩ (fun H locs hP hD hS => ?_)
                  have hP : va_P (dC, dI) vwCl (w_M cI cJ cZ aM 0 VM1 VM2 VM3 VM4 VM5 WM0 NM0 NM1 NM2 LM0 LM1 LM2 LM3 LM4 LM5 LM6 LM7 LM8 LM9 LM10 LM11 LM12 y119.1 y119.2 LM15 IM0 IM1 IM2 IM3) H := hP
                  have hD : va_D A (w_M cI cJ cZ aM 0 VM1 VM2 VM3 VM4 VM5 WM0 NM0 NM1 NM2 LM0 LM1 LM2 LM3 LM4 LM5 LM6 LM7 LM8 LM9 LM10 LM11 LM12 y119.1 y119.2 LM15 IM0 IM1 IM2 IM3) := hD
                  refine lv_iload_n hx hb d_Model_dual_127 rfl (lv_at hl 2 rfl) ?_
                  refine lv_i2l (v := x1.toInt64) hx hb d_Model_dual_128 rfl ?_
                  refine lv_ladd hx hb d_Model_dual_129 ?_
                  refine lv_iload_n hx hb d_Model_dual_130 rfl (lv_at hl 4 rfl) ?_
                  obtain ⟨y131, hy131, hR⟩ := hw_bind hR
                  have hM := c_Model_differs l dC dI cI cJ cZ H.size aM 0 VM1 VM2 VM3 VM4 VM5 WM0 NM0 NM1 NM2 LM0 LM1 LM2 LM3 LM4 LM5 LM6 LM7 LM8 LM9 LM10 LM11 LM12 y119.1 y119.2 LM15 IM0 IM1 IM2 IM3 (y124 + x1.toInt64) x3 (by first | assumption | omega) (by first | assumption | omega) (by first | assumption | omega) (by first | assumption | omega) (by first | assumption | omega) (by first | assumption | omega) (fun _ => 0) hnt.1
                  rw [hy131] at hM
                  refine hw_callVl (As := [.long (y124 + x1.toInt64), .int x3]) (rest := []) (wr := ([] : va_W)) ⟨hx, hb, hml, hown, hG⟩ hM (hw_cwV 2 hG m_820 m_822 mp_33 m_7 m_823 rfl rfl (by decide +kernel) ⟨Nat.le_of_ble_eq_true rfl, Nat.le_of_ble_eq_true rfl⟩) hK hP hD hS hA [0, 1, 2, 3, 4, 5, 6, 7, 8, 9, 10, 11, 12, 13, 14, 15, 16, 17, 18, 19, 20, 21, 22, 23] [] rfl rfl (by decide) (by decide) (by decide) (hw_recv hK hP 0 rfl rfl) rfl hl.1 rfl (Nat.le_of_ble_eq_true rfl) d_Model_dual_131 ⟨Nat.le_of_ble_eq_true rfl, Nat.le_of_ble_eq_true rfl⟩ (fun H locs hP hD hS => ?_)
                  have hP : va_P (dC, dI) vwCl (w_M cI cJ cZ aM 0 VM1 VM2 VM3 VM4 VM5 WM0 NM0 NM1 NM2 LM0 LM1 LM2 LM3 LM4 LM5 LM6 LM7 LM8 LM9 LM10 LM11 LM12 y131.2.1 y119.2 y131.2.2.1 IM0 IM1 IM2 y131.2.2.2) H := hP
                  have hD : va_D A (w_M cI cJ cZ aM 0 VM1 VM2 VM3 VM4 VM5 WM0 NM0 NM1 NM2 LM0 LM1 LM2 LM3 LM4 LM5 LM6 LM7 LM8 LM9 LM10 LM11 LM12 y131.2.1 y119.2 y131.2.2.1 IM0 IM1 IM2 y131.2.2.2) := hD
                  subst hR
                  exact W.lret (v := y131.1) hx hb hr (fun t ht hW => ⟨⟨_, (), rfl, rfl, by rw [ht]; exact hP, va_K.moved hW.alike hK, hD⟩, hS.F ht⟩) hS.2.2 d_Model_dual_134
                · replace hR := (if_pos c107).symm.trans hR
                  refine lv_iload_n hx hb d_Model_dual_110 rfl (lv_at hl 3 rfl) ?_
                  refine lv_goto (tgt := 116) hx hb d_Model_dual_111 (by decide) ?_
                  refine lv_lconst (v := 1) hx hb d_Model_dual_116 (by decide) ?_
                  refine lv_bipush (v := (-2)) hx hb d_Model_dual_117 (by decide) ?_
                  obtain ⟨y119, hy119, hR⟩ := hw_bind hR
                  have hM := c_Model_lay l dC dI cI cJ cZ H.size aM 0 VM1 VM2 VM3 VM4 VM5 WM0 NM0 NM1 NM2 LM0 LM1 LM2 LM3 LM4 LM5 LM6 LM7 LM8 LM9 LM10 LM11 LM12 LM13 LM14 LM15 IM0 IM1 IM2 IM3 (-2) x2 1 (-2) (by first | assumption | omega) (by first | assumption | omega) (by first | assumption | omega) (by first | assumption | omega) (by first | assumption | omega) (by first | assumption | omega) (by first | assumption | omega) (by first | assumption | omega) (by first | assumption | omega)
                  rw [hy119] at hM
                  refine hw_callVv (As := [.int (-2), .int x2, .long 1, .int (-2)]) (rest := []) (wr := ([] : va_W)) ⟨hx, hb, hml, hown, hG⟩ hM (hw_cwV 4 hG m_754 m_756 mp_21 m_7 m_757 rfl rfl (by decide +kernel) ⟨Nat.le_of_ble_eq_true rfl, Nat.le_of_ble_eq_true rfl⟩) hK hP hD hS hA [0, 1, 2, 3, 4, 5, 6, 7, 8, 9, 10, 11, 12, 13, 14, 15, 16, 17, 18, 19, 20, 21, 22, 23] [] rfl rfl (by decide) (by decide) (by decide) (hw_recv hK hP 0 rfl rfl) rfl hl.1 rfl (Nat.le_of_ble_eq_true rfl) d_Model_dual_119 ⟨Nat.le_of_ble_eq_true rfl, Nat.le_of_ble_eq_true rfl⟩ (fun H locs hP hD hS => ?_)
                  have hP : va_P (dC, dI) vwCl (w_M cI cJ cZ aM 0 VM1 VM2 VM3 VM4 VM5 WM0 NM0 NM1 NM2 LM0 LM1 LM2 LM3 LM4 LM5 LM6 LM7 LM8 LM9 LM10 LM11 LM12 y119.1 y119.2 LM15 IM0 IM1 IM2 IM3) H := hP
                  have hD : va_D A (w_M cI cJ cZ aM 0 VM1 VM2 VM3 VM4 VM5 WM0 NM0 NM1 NM2 LM0 LM1 LM2 LM3 LM4 LM5 LM6 LM7 LM8 LM9 LM10 LM11 LM12 y119.1 y119.2 LM15 IM0 IM1 IM2 IM3) := hD
                  have hnt := hv_net (VM1 := VM1) (VM2 := VM2) (VM3 := VM3) (VM4 := VM4) (NM0 := NM0) (NM1 := NM1) (NM2 := NM2) (IM0 := IM0) (IM1 := IM1) (-2) x2 1 (-2) LM13 LM14 hvM mk4 mfw m2 (by omega) ⟨by decide, by decide⟩ (fun s hs e => absurd e (hv_m2 (by omega)))
                  rw [hy119] at hnt
                  refine lv_aload_n hx hb d_Model_dual_122 rfl (lv_at hl 1 rfl) ?_
                  refine lv_aload_n hx hb d_Model_dual_123 rfl (lv_at hl 1 rfl) ?_
                  obtain ⟨y124, hy124, hR⟩ := hw_bind hR
                  have hM := c_Model_wanted l dC dI cI cJ cZ H.size aM 0 VM1 VM2 VM3 VM4 VM5 WM0 NM0 NM1 NM2 LM0 LM1 LM2 LM3 LM4 LM5 LM6 LM7 LM8 LM9 LM10 LM11 LM12 y119.1 y119.2 LM15 IM0 IM1 IM2 IM3 (by first | assumption | omega)
                  rw [hy124] at hM
                  refine hw_callVl (As := []) (rest := [.ref (aM 0)]) (wr := ([] : va_W)) ⟨hx, hb, hml, hown, hG⟩ hM (hw_cwV 0 hG m_790 m_792 mp_29 m_7 m_793 rfl rfl (by decide +kernel) ⟨Nat.le_of_ble_eq_true rfl, Nat.le_of_ble_eq_true rfl⟩) hK hP hD hS hA [0, 1, 2, 3, 4, 5, 6, 7, 8, 9, 10, 11, 12, 13, 14, 15, 16, 17, 18, 19, 20, 21, 22, 23] [] rfl rfl (by decide) (by decide) (by decide) (hw_recv hK hP 0 rfl rfl) rfl hl.1 rfl (Nat.le_of_ble_eq_true rfl) d_Model_dual_124 ⟨Nat.le_of_ble_eq_true rfl, Nat.le_of_ble_eq_true rfl⟩ (fun H locs hP hD hS => ?_)
                  have hP : va_P (dC, dI) vwCl (w_M cI cJ cZ aM 0 VM1 VM2 VM3 VM4 VM5 WM0 NM0 NM1 NM2 LM0 LM1 LM2 LM3 LM4 LM5 LM6 LM7 LM8 LM9 LM10 LM11 LM12 y119.1 y119.2 LM15 IM0 IM1 IM2 IM3) H := hP
                  have hD : va_D A (w_M cI cJ cZ aM 0 VM1 VM2 VM3 VM4 VM5 WM0 NM0 NM1 NM2 LM0 LM1 LM2 LM3 LM4 LM5 LM6 LM7 LM8 LM9 LM10 LM11 LM12 y119.1 y119.2 LM15 IM0 IM1 IM2 IM3) := hD
                  refine lv_iload_n hx hb d_Model_dual_127 rfl (lv_at hl 2 rfl) ?_
                  refine lv_i2l (v := x1.toInt64) hx hb d_Model_dual_128 rfl ?_
                  refine lv_ladd hx hb d_Model_dual_129 ?_
                  refine lv_iload_n hx hb d_Model_dual_130 rfl (lv_at hl 4 rfl) ?_
                  obtain ⟨y131, hy131, hR⟩ := hw_bind hR
                  have hM := c_Model_differs l dC dI cI cJ cZ H.size aM 0 VM1 VM2 VM3 VM4 VM5 WM0 NM0 NM1 NM2 LM0 LM1 LM2 LM3 LM4 LM5 LM6 LM7 LM8 LM9 LM10 LM11 LM12 y119.1 y119.2 LM15 IM0 IM1 IM2 IM3 (y124 + x1.toInt64) x3 (by first | assumption | omega) (by first | assumption | omega) (by first | assumption | omega) (by first | assumption | omega) (by first | assumption | omega) (by first | assumption | omega) (fun _ => 0) hnt.1
                  rw [hy131] at hM
                  refine hw_callVl (As := [.long (y124 + x1.toInt64), .int x3]) (rest := []) (wr := ([] : va_W)) ⟨hx, hb, hml, hown, hG⟩ hM (hw_cwV 2 hG m_820 m_822 mp_33 m_7 m_823 rfl rfl (by decide +kernel) ⟨Nat.le_of_ble_eq_true rfl, Nat.le_of_ble_eq_true rfl⟩) hK hP hD hS hA [0, 1, 2, 3, 4, 5, 6, 7, 8, 9, 10, 11, 12, 13, 14, 15, 16, 17, 18, 19, 20, 21, 22, 23] [] rfl rfl (by decide) (by decide) (by decide) (hw_recv hK hP 0 rfl rfl) rfl hl.1 rfl (Nat.le_of_ble_eq_true rfl) d_Model_dual_131 ⟨Nat.le_of_ble_eq_true rfl, Nat.le_of_ble_eq_true rfl⟩ (fun H locs hP hD hS => ?_)
                  have hP : va_P (dC, dI) vwCl (w_M cI cJ cZ aM 0 VM1 VM2 VM3 VM4 VM5 WM0 NM0 NM1 NM2 LM0 LM1 LM2 LM3 LM4 LM5 LM6 LM7 LM8 LM9 LM10 LM11 LM12 y131.2.1 y119.2 y131.2.2.1 IM0 IM1 IM2 y131.2.2.2) H := hP
                  have hD : va_D A (w_M cI cJ cZ aM 0 VM1 VM2 VM3 VM4 VM5 WM0 NM0 NM1 NM2 LM0 LM1 LM2 LM3 LM4 LM5 LM6 LM7 LM8 LM9 LM10 LM11 LM12 y131.2.1 y119.2 y131.2.2.1 IM0 IM1 IM2 y131.2.2.2) := hD
                  subst hR
                  exact W.lret (v := y131.1) hx hb hr (fun t ht hW => ⟨⟨_, (), rfl, rfl, by rw [ht]; exact hP, va_K.moved hW.alike hK, hD⟩, hS.F ht⟩) hS.2.2 d_Model_dual_134
              · replace hR := (if_pos c96).symm.trans hR
                refine lv_iload_n hx hb d_Model_dual_99 rfl (lv_at hl 3 rfl) ?_
                refine lv_goto (tgt := 105) hx hb d_Model_dual_100 (by decide) ?_
                refine lv_iload_n hx hb d_Model_dual_105 rfl (lv_at hl 2 rfl) ?_
                refine lv_iconst (v := nI 1) hx hb d_Model_dual_106 (by decide) ?_
                refine lv_icmp_ne (tgt := 114) hx hb d_Model_dual_107 (by decide) (fun c107 => ?_) (fun c107 => ?_)
                · replace hR := (if_neg c107).symm.trans hR
                  refine lv_bipush (v := (-2)) hx hb d_Model_dual_114 (by decide) ?_
                  refine lv_lconst (v := 1) hx hb d_Model_dual_116 (by decide) ?_
                  refine lv_bipush (v := (-2)) hx hb d_Model_dual_117 (by decide) ?_
                  obtain ⟨y119, hy119, hR⟩ := hw_bind hR
                  have hM := c_Model_lay l dC dI cI cJ cZ H.size aM 0 VM1 VM2 VM3 VM4 VM5 WM0 NM0 NM1 NM2 LM0 LM1 LM2 LM3 LM4 LM5 LM6 LM7 LM8 LM9 LM10 LM11 LM12 LM13 LM14 LM15 IM0 IM1 IM2 IM3 x2 (-2) 1 (-2) (by first | assumption | omega) (by first | assumption | omega) (by first | assumption | omega) (by first | assumption | omega) (by first | assumption | omega) (by first | assumption | omega) (by first | assumption | omega) (by first | assumption | omega) (by first | assumption | omega)
                  rw [hy119] at hM
                  refine hw_callVv (As := [.int x2, .int (-2), .long 1, .int (-2)]) (rest := []) (wr := ([] : va_W)) ⟨hx, hb, hml, hown, hG⟩ hM (hw_cwV 4 hG m_754 m_756 mp_21 m_7 m_757 rfl rfl (by decide +kernel) ⟨Nat.le_of_ble_eq_true rfl, Nat.le_of_ble_eq_true rfl⟩) hK hP hD hS hA [0, 1, 2, 3, 4, 5, 6, 7, 8, 9, 10, 11, 12, 13, 14, 15, 16, 17, 18, 19, 20, 21, 22, 23] [] rfl rfl (by decide) (by decide) (by decide) (hw_recv hK hP 0 rfl rfl) rfl hl.1 rfl (Nat.le_of_ble_eq_true rfl) d_Model_dual_119 ⟨Nat.le_of_ble_eq_true rfl, Nat.le_of_ble_eq_true rfl⟩ (fun H locs hP hD hS => ?_)
                  have hP : va_P (dC, dI) vwCl (w_M cI cJ cZ aM 0 VM1 VM2 VM3 VM4 VM5 WM0 NM0 NM1 NM2 LM0 LM1 LM2 LM3 LM4 LM5 LM6 LM7 LM8 LM9 LM10 LM11 LM12 y119.1 y119.2 LM15 IM0 IM1 IM2 IM3) H := hP
                  have hD : va_D A (w_M cI cJ cZ aM 0 VM1 VM2 VM3 VM4 VM5 WM0 NM0 NM1 NM2 LM0 LM1 LM2 LM3 LM4 LM5 LM6 LM7 LM8 LM9 LM10 LM11 LM12 y119.1 y119.2 LM15 IM0 IM1 IM2 IM3) := hD
                  have hnt := hv_net (VM1 := VM1) (VM2 := VM2) (VM3 := VM3) (VM4 := VM4) (NM0 := NM0) (NM1 := NM1) (NM2 := NM2) (IM0 := IM0) (IM1 := IM1) x2 (-2) 1 (-2) LM13 LM14 hvM mk4 mfw m2 (by omega) ⟨by decide, by decide⟩ (fun _ _ _ => absurd c96 c77)
                  rw [hy119] at hnt
                  refine lv_aload_n hx hb d_Model_dual_122 rfl (lv_at hl 1 rfl) ?_
                  refine lv_aload_n hx hb d_Model_dual_123 rfl (lv_at hl 1 rfl) ?_
                  obtain ⟨y124, hy124, hR⟩ := hw_bind hR
                  have hM := c_Model_wanted l dC dI cI cJ cZ H.size aM 0 VM1 VM2 VM3 VM4 VM5 WM0 NM0 NM1 NM2 LM0 LM1 LM2 LM3 LM4 LM5 LM6 LM7 LM8 LM9 LM10 LM11 LM12 y119.1 y119.2 LM15 IM0 IM1 IM2 IM3 (by first | assumption | omega)
                  rw [hy124] at hM
                  refine hw_callVl (As := []) (rest := [.ref (aM 0)]) (wr := ([] : va_W)) ⟨hx, hb, hml, hown, hG⟩ hM (hw_cwV 0 hG m_790 m_792 mp_29 m_7 m_793 rfl rfl (by decide +kernel) ⟨Nat.le_of_ble_eq_true rfl, Nat.le_of_ble_eq_true rfl⟩) hK hP hD hS hA [0, 1, 2, 3, 4, 5, 6, 7, 8, 9, 10, 11, 12, 13, 14, 15, 16, 17, 18, 19, 20, 21, 22, 23] [] rfl rfl (by decide) (by decide) (by decide) (hw_recv hK hP 0 rfl rfl) rfl hl.1 rfl (Nat.le_of_ble_eq_true rfl) d_Model_dual_124 ⟨Nat.le_of_ble_eq_true rfl, Nat.le_of_ble_eq_true rfl⟩ (fun H locs hP hD hS => ?_)
                  have hP : va_P (dC, dI) vwCl (w_M cI cJ cZ aM 0 VM1 VM2 VM3 VM4 VM5 WM0 NM0 NM1 NM2 LM0 LM1 LM2 LM3 LM4 LM5 LM6 LM7 LM8 LM9 LM10 LM11 LM12 y119.1 y119.2 LM15 IM0 IM1 IM2 IM3) H := hP
                  have hD : va_D A (w_M cI cJ cZ aM 0 VM1 VM2 VM3 VM4 VM5 WM0 NM0 NM1 NM2 LM0 LM1 LM2 LM3 LM4 LM5 LM6 LM7 LM8 LM9 LM10 LM11 LM12 y119.1 y119.2 LM15 IM0 IM1 IM2 IM3) := hD
                  refine lv_iload_n hx hb d_Model_dual_127 rfl (lv_at hl 2 rfl) ?_
                  refine lv_i2l (v := x1.toInt64) hx hb d_Model_dual_128 rfl ?_
                  refine lv_ladd hx hb d_Model_dual_129 ?_
                  refine lv_iload_n hx hb d_Model_dual_130 rfl (lv_at hl 4 rfl) ?_
                  obtain ⟨y131, hy131, hR⟩ := hw_bind hR
                  have hM := c_Model_differs l dC dI cI cJ cZ H.size aM 0 VM1 VM2 VM3 VM4 VM5 WM0 NM0 NM1 NM2 LM0 LM1 LM2 LM3 LM4 LM5 LM6 LM7 LM8 LM9 LM10 LM11 LM12 y119.1 y119.2 LM15 IM0 IM1 IM2 IM3 (y124 + x1.toInt64) x3 (by first | assumption | omega) (by first | assumption | omega) (by first | assumption | omega) (by first | assumption | omega) (by first | assumption | omega) (by first | assumption | omega) (fun _ => 0) hnt.1
                  rw [hy131] at hM
                  refine hw_callVl (As := [.long (y124 + x1.toInt64), .int x3]) (rest := []) (wr := ([] : va_W)) ⟨hx, hb, hml, hown, hG⟩ hM (hw_cwV 2 hG m_820 m_822 mp_33 m_7 m_823 rfl rfl (by decide +kernel) ⟨Nat.le_of_ble_eq_true rfl, Nat.le_of_ble_eq_true rfl⟩) hK hP hD hS hA [0, 1, 2, 3, 4, 5, 6, 7, 8, 9, 10, 11, 12, 13, 14, 15, 16, 17, 18, 19, 20, 21, 22, 23] [] rfl rfl (by decide) (by decide) (by decide) (hw_recv hK hP 0 rfl rfl) rfl hl.1 rfl (Nat.le_of_ble_eq_true rfl) d_Model_dual_131 ⟨Nat.le_of_ble_eq_true rfl, Nat.le_of_ble_eq_true rfl⟩ (fun H locs hP hD hS => ?_)
                  have hP : va_P (dC, dI) vwCl (w_M cI cJ cZ aM 0 VM1 VM2 VM3 VM4 VM5 WM0 NM0 NM1 NM2 LM0 LM1 LM2 LM3 LM4 LM5 LM6 LM7 LM8 LM9 LM10 LM11 LM12 y131.2.1 y119.2 y131.2.2.1 IM0 IM1 IM2 y131.2.2.2) H := hP
                  have hD : va_D A (w_M cI cJ cZ aM 0 VM1 VM2 VM3 VM4 VM5 WM0 NM0 NM1 NM2 LM0 LM1 LM2 LM3 LM4 LM5 LM6 LM7 LM8 LM9 LM10 LM11 LM12 y131.2.1 y119.2 y131.2.2.1 IM0 IM1 IM2 y131.2.2.2) := hD
                  subst hR
                  exact W.lret (v := y131.1) hx hb hr (fun t ht hW => ⟨⟨_, (), rfl, rfl, by rw [ht]; exact hP, va_K.moved hW.alike hK, hD⟩, hS.F ht⟩) hS.2.2 d_Model_dual_134
                · replace hR := (if_pos c107).symm.trans hR
                  refine lv_iload_n hx hb d_Model_dual_110 rfl (lv_at hl 3 rfl) ?_
                  refine lv_goto (tgt := 116) hx hb d_Model_dual_111 (by decide) ?_
                  refine lv_lconst (v := 1) hx hb d_Model_dual_116 (by decide) ?_
                  refine lv_bipush (v := (-2)) hx hb d_Model_dual_117 (by decide) ?_
                  obtain ⟨y119, hy119, hR⟩ := hw_bind hR
                  have hM := c_Model_lay l dC dI cI cJ cZ H.size aM 0 VM1 VM2 VM3 VM4 VM5 WM0 NM0 NM1 NM2 LM0 LM1 LM2 LM3 LM4 LM5 LM6 LM7 LM8 LM9 LM10 LM11 LM12 LM13 LM14 LM15 IM0 IM1 IM2 IM3 x2 x2 1 (-2) (by first | assumption | omega) (by first | assumption | omega) (by first | assumption | omega) (by first | assumption | omega) (by first | assumption | omega) (by first | assumption | omega) (by first | assumption | omega) (by first | assumption | omega) (by first | assumption | omega)
                  rw [hy119] at hM
                  refine hw_callVv (As := [.int x2, .int x2, .long 1, .int (-2)]) (rest := []) (wr := ([] : va_W)) ⟨hx, hb, hml, hown, hG⟩ hM (hw_cwV 4 hG m_754 m_756 mp_21 m_7 m_757 rfl rfl (by decide +kernel) ⟨Nat.le_of_ble_eq_true rfl, Nat.le_of_ble_eq_true rfl⟩) hK hP hD hS hA [0, 1, 2, 3, 4, 5, 6, 7, 8, 9, 10, 11, 12, 13, 14, 15, 16, 17, 18, 19, 20, 21, 22, 23] [] rfl rfl (by decide) (by decide) (by decide) (hw_recv hK hP 0 rfl rfl) rfl hl.1 rfl (Nat.le_of_ble_eq_true rfl) d_Model_dual_119 ⟨Nat.le_of_ble_eq_true rfl, Nat.le_of_ble_eq_true rfl⟩ (fun H locs hP hD hS => ?_)
                  have hP : va_P (dC, dI) vwCl (w_M cI cJ cZ aM 0 VM1 VM2 VM3 VM4 VM5 WM0 NM0 NM1 NM2 LM0 LM1 LM2 LM3 LM4 LM5 LM6 LM7 LM8 LM9 LM10 LM11 LM12 y119.1 y119.2 LM15 IM0 IM1 IM2 IM3) H := hP
                  have hD : va_D A (w_M cI cJ cZ aM 0 VM1 VM2 VM3 VM4 VM5 WM0 NM0 NM1 NM2 LM0 LM1 LM2 LM3 LM4 LM5 LM6 LM7 LM8 LM9 LM10 LM11 LM12 y119.1 y119.2 LM15 IM0 IM1 IM2 IM3) := hD
                  have hnt := hv_net (VM1 := VM1) (VM2 := VM2) (VM3 := VM3) (VM4 := VM4) (NM0 := NM0) (NM1 := NM1) (NM2 := NM2) (IM0 := IM0) (IM1 := IM1) x2 x2 1 (-2) LM13 LM14 hvM mk4 mfw m2 (by omega) ⟨by decide, by decide⟩ (fun _ _ _ => absurd c96 c77)
                  rw [hy119] at hnt
                  refine lv_aload_n hx hb d_Model_dual_122 rfl (lv_at hl 1 rfl) ?_
                  refine lv_aload_n hx hb d_Model_dual_123 rfl (lv_at hl 1 rfl) ?_
                  obtain ⟨y124, hy124, hR⟩ := hw_bind hR
                  have hM := c_Model_wanted l dC dI cI cJ cZ H.size aM 0 VM1 VM2 VM3 VM4 VM5 WM0 NM0 NM1 NM2 LM0 LM1 LM2 LM3 LM4 LM5 LM6 LM7 LM8 LM9 LM10 LM11 LM12 y119.1 y119.2 LM15 IM0 IM1 IM2 IM3 (by first | assumption | omega)
                  rw [hy124] at hM
                  refine hw_callVl (As := []) (rest := [.ref (aM 0)]) (wr := ([] : va_W)) ⟨hx, hb, hml, hown, hG⟩ hM (hw_cwV 0 hG m_790 m_792 mp_29 m_7 m_793 rfl rfl (by decide +kernel) ⟨Nat.le_of_ble_eq_true rfl, Nat.le_of_ble_eq_true rfl⟩) hK hP hD hS hA [0, 1, 2, 3, 4, 5, 6, 7, 8, 9, 10, 11, 12, 13, 14, 15, 16, 17, 18, 19, 20, 21, 22, 23] [] rfl rfl (by decide) (by decide) (by decide) (hw_recv hK hP 0 rfl rfl) rfl hl.1 rfl (Nat.le_of_ble_eq_true rfl) d_Model_dual_124 ⟨Nat.le_of_ble_eq_true rfl, Nat.le_of_ble_eq_true rfl⟩ (fun H locs hP hD hS => ?_)
                  have hP : va_P (dC, dI) vwCl (w_M cI cJ cZ aM 0 VM1 VM2 VM3 VM4 VM5 WM0 NM0 NM1 NM2 LM0 LM1 LM2 LM3 LM4 LM5 LM6 LM7 LM8 LM9 LM10 LM11 LM12 y119.1 y119.2 LM15 IM0 IM1 IM2 IM3) H := hP
                  have hD : va_D A (w_M cI cJ cZ aM 0 VM1 VM2 VM3 VM4 VM5 WM0 NM0 NM1 NM2 LM0 LM1 LM2 LM3 LM4 LM5 LM6 LM7 LM8 LM9 LM10 LM11 LM12 y119.1 y119.2 LM15 IM0 IM1 IM2 IM3) := hD
                  refine lv_iload_n hx hb d_Model_dual_127 rfl (lv_at hl 2 rfl) ?_
                  refine lv_i2l (v := x1.toInt64) hx hb d_Model_dual_128 rfl ?_
                  refine lv_ladd hx hb d_Model_dual_129 ?_
                  refine lv_iload_n hx hb d_Model_dual_130 rfl (lv_at hl 4 rfl) ?_
                  obtain ⟨y131, hy131, hR⟩ := hw_bind hR
                  have hM := c_Model_differs l dC dI cI cJ cZ H.size aM 0 VM1 VM2 VM3 VM4 VM5 WM0 NM0 NM1 NM2 LM0 LM1 LM2 LM3 LM4 LM5 LM6 LM7 LM8 LM9 LM10 LM11 LM12 y119.1 y119.2 LM15 IM0 IM1 IM2 IM3 (y124 + x1.toInt64) x3 (by first | assumption | omega) (by first | assumption | omega) (by first | assumption | omega) (by first | assumption | omega) (by first | assumption | omega) (by first | assumption | omega) (fun _ => 0) hnt.1
                  rw [hy131] at hM
                  refine hw_callVl (As := [.long (y124 + x1.toInt64), .int x3]) (rest := []) (wr := ([] : va_W)) ⟨hx, hb, hml, hown, hG⟩ hM (hw_cwV 2 hG m_820 m_822 mp_33 m_7 m_823 rfl rfl (by decide +kernel) ⟨Nat.le_of_ble_eq_true rfl, Nat.le_of_ble_eq_true rfl⟩) hK hP hD hS hA [0, 1, 2, 3, 4, 5, 6, 7, 8, 9, 10, 11, 12, 13, 14, 15, 16, 17, 18, 19, 20, 21, 22, 23] [] rfl rfl (by decide) (by decide) (by decide) (hw_recv hK hP 0 rfl rfl) rfl hl.1 rfl (Nat.le_of_ble_eq_true rfl) d_Model_dual_131 ⟨Nat.le_of_ble_eq_true rfl, Nat.le_of_ble_eq_true rfl⟩ (fun H locs hP hD hS => ?_)
                  have hP : va_P (dC, dI) vwCl (w_M cI cJ cZ aM 0 VM1 VM2 VM3 VM4 VM5 WM0 NM0 NM1 NM2 LM0 LM1 LM2 LM3 LM4 LM5 LM6 LM7 LM8 LM9 LM10 LM11 LM12 y131.2.1 y119.2 y131.2.2.1 IM0 IM1 IM2 y131.2.2.2) H := hP
                  have hD : va_D A (w_M cI cJ cZ aM 0 VM1 VM2 VM3 VM4 VM5 WM0 NM0 NM1 NM2 LM0 LM1 LM2 LM3 LM4 LM5 LM6 LM7 LM8 LM9 LM10 LM11 LM12 y131.2.1 y119.2 y131.2.2.1 IM0 IM1 IM2 y131.2.2.2) := hD
                  subst hR
                  exact W.lret (v := y131.1) hx hb hr (fun t ht hW => ⟨⟨_, (), rfl, rfl, by rw [ht]; exact hP, va_K.moved hW.alike hK, hD⟩, hS.F ht⟩) hS.2.2 d_Model_dual_134
            · replace hR := (if_pos c77).symm.trans hR
              obtain ⟨hna2, hnb2⟩ := hbl37 c40
              have en80_2 : nI (x2.toNatClampNeg) = x2 := hw_nat hna2
              have hl : lv_has ls 5 [(4, .int (nI 1)), (0, .ref (aM 0)), (1, .int x1), (2, .int (nI x2.toNatClampNeg)), (3, .int x3)] := by rw [en80_2]; exact hl
              refine lv_aload_n hx hb d_Model_dual_80 rfl (lv_at hl 1 rfl) ?_
              refine lv_iload_n hx hb d_Model_dual_81 rfl (lv_at hl 3 rfl) ?_
              obtain ⟨y82, hy82, hR⟩ := hw_bind hR
              have hM := c_Model_gives l dC dI cI cJ cZ H.size aM 0 VM1 VM2 VM3 VM4 VM5 WM0 NM0 NM1 NM2 LM0 LM1 LM2 LM3 LM4 LM5 LM6 LM7 LM8 LM9 LM10 LM11 LM12 LM13 LM14 LM15 IM0 IM1 IM2 IM3 x2.toNatClampNeg (by first | assumption | omega) (by first | assumption | omega) (by first | assumption | omega)
              rw [hy82] at hM
              refine hw_callVl (As := [.int (nI x2.toNatClampNeg)]) (rest := []) (wr := ([] : va_W)) ⟨hx, hb, hml, hown, hG⟩ hM (hw_cwV 1 hG m_758 m_760 mp_22 m_7 m_761 rfl rfl (by decide +kernel) ⟨Nat.le_of_ble_eq_true rfl, Nat.le_of_ble_eq_true rfl⟩) hK hP hD hS hA [0, 1, 2, 3, 4, 5, 6, 7, 8, 9, 10, 11, 12, 13, 14, 15, 16, 17, 18, 19, 20, 21, 22, 23] [] rfl rfl (by decide) (by decide) (by decide) (hw_recv hK hP 0 rfl rfl) rfl hl.1 rfl (Nat.le_of_ble_eq_true rfl) d_Model_dual_82 ⟨Nat.le_of_ble_eq_true rfl, Nat.le_of_ble_eq_true rfl⟩ (fun H locs hP hD hS => ?_)
              have hP : va_P (dC, dI) vwCl (w_M cI cJ cZ aM 0 VM1 VM2 VM3 VM4 VM5 WM0 NM0 NM1 NM2 LM0 LM1 LM2 LM3 LM4 LM5 LM6 LM7 LM8 LM9 LM10 LM11 LM12 LM13 LM14 LM15 IM0 IM1 IM2 IM3) H := hP
              have hD : va_D A (w_M cI cJ cZ aM 0 VM1 VM2 VM3 VM4 VM5 WM0 NM0 NM1 NM2 LM0 LM1 LM2 LM3 LM4 LM5 LM6 LM7 LM8 LM9 LM10 LM11 LM12 LM13 LM14 LM15 IM0 IM1 IM2 IM3) := hD
              refine lv_lconst (v := 0) hx hb d_Model_dual_85 (by decide) ?_
              refine hw_lcmp_ne (tgt := 94) hx hb d_Model_dual_86 d_Model_dual_87 (by decide) (fun c86 => ?_) (fun c86 => ?_)
              · replace hR := (if_neg c86).symm.trans hR
                refine lv_aload_n hx hb d_Model_dual_94 rfl (lv_at hl 1 rfl) ?_
                refine lv_iload_n hx hb d_Model_dual_95 rfl (lv_at hl 2 rfl) ?_
                refine lv_if_ne (tgt := 103) hx hb d_Model_dual_96 (by decide) (fun c96 => ?_) (fun c96 => ?_)
                · replace hR := (if_neg c96).symm.trans hR
                  refine lv_bipush (v := (-2)) hx hb d_Model_dual_103 (by decide) ?_
                  refine lv_iload_n hx hb d_Model_dual_105 rfl (lv_at hl 2 rfl) ?_
                  refine lv_iconst (v := nI 1) hx hb d_Model_dual_106 (by decide) ?_
                  refine lv_icmp_ne (tgt := 114) hx hb d_Model_dual_107 (by decide) (fun c107 => ?_) (fun c107 => ?_)
                  · replace hR := (if_neg c107).symm.trans hR
                    refine lv_bipush (v := (-2)) hx hb d_Model_dual_114 (by decide) ?_
                    refine lv_lconst (v := 1) hx hb d_Model_dual_116 (by decide) ?_
                    refine lv_bipush (v := (-2)) hx hb d_Model_dual_117 (by decide) ?_
                    obtain ⟨y119, hy119, hR⟩ := hw_bind hR
                    have hM := c_Model_lay l dC dI cI cJ cZ H.size aM 0 VM1 VM2 VM3 VM4 VM5 WM0 NM0 NM1 NM2 LM0 LM1 LM2 LM3 LM4 LM5 LM6 LM7 LM8 LM9 LM10 LM11 LM12 LM13 LM14 LM15 IM0 IM1 IM2 IM3 (-2) (-2) 1 (-2) (by first | assumption | omega) (by first | assumption | omega) (by first | assumption | omega) (by first | assumption | omega) (by first | assumption | omega) (by first | assumption | omega) (by first | assumption | omega) (by first | assumption | omega) (by first | assumption | omega)
                    rw [hy119] at hM
                    refine hw_callVv (As := [.int (-2), .int (-2), .long 1, .int (-2)]) (rest := []) (wr := ([] : va_W)) ⟨hx, hb, hml, hown, hG⟩ hM (hw_cwV 4 hG m_754 m_756 mp_21 m_7 m_757 rfl rfl (by decide +kernel) ⟨Nat.le_of_ble_eq_true rfl, Nat.le_of_ble_eq_true rfl⟩) hK hP hD hS hA [0, 1, 2, 3, 4, 5, 6, 7, 8, 9, 10, 11, 12, 13, 14, 15, 16, 17, 18, 19, 20, 21, 22, 23] [] rfl rfl (by decide) (by decide) (by decide) (hw_recv hK hP 0 rfl rfl) rfl hl.1 rfl (Nat.le_of_ble_eq_true rfl) d_Model_dual_119 ⟨Nat.le_of_ble_eq_true rfl, Nat.le_of_ble_eq_true rfl⟩ (fun H locs hP hD hS => ?_)
                    have hP : va_P (dC, dI) vwCl (w_M cI cJ cZ aM 0 VM1 VM2 VM3 VM4 VM5 WM0 NM0 NM1 NM2 LM0 LM1 LM2 LM3 LM4 LM5 LM6 LM7 LM8 LM9 LM10 LM11 LM12 y119.1 y119.2 LM15 IM0 IM1 IM2 IM3) H := hP
                    have hD : va_D A (w_M cI cJ cZ aM 0 VM1 VM2 VM3 VM4 VM5 WM0 NM0 NM1 NM2 LM0 LM1 LM2 LM3 LM4 LM5 LM6 LM7 LM8 LM9 LM10 LM11 LM12 y119.1 y119.2 LM15 IM0 IM1 IM2 IM3) := hD
                    have hnt := hv_net (VM1 := VM1) (VM2 := VM2) (VM3 := VM3) (VM4 := VM4) (NM0 := NM0) (NM1 := NM1) (NM2 := NM2) (IM0 := IM0) (IM1 := IM1) (-2) (-2) 1 (-2) LM13 LM14 hvM mk4 mfw m2 (by omega) ⟨by decide, by decide⟩ (fun s hs e => absurd e (hv_m2 (by omega)))
                    rw [hy119] at hnt
                    refine lv_aload_n hx hb d_Model_dual_122 rfl (lv_at hl 1 rfl) ?_
                    refine lv_aload_n hx hb d_Model_dual_123 rfl (lv_at hl 1 rfl) ?_
                    obtain ⟨y124, hy124, hR⟩ := hw_bind hR
                    have hM := c_Model_wanted l dC dI cI cJ cZ H.size aM 0 VM1 VM2 VM3 VM4 VM5 WM0 NM0 NM1 NM2 LM0 LM1 LM2 LM3 LM4 LM5 LM6 LM7 LM8 LM9 LM10 LM11 LM12 y119.1 y119.2 LM15 IM0 IM1 IM2 IM3 (by first | assumption | omega)
                    rw [hy124] at hM
                    refine hw_callVl (As := []) (rest := [.ref (aM 0)]) (wr := ([] : va_W)) ⟨hx, hb, hml, hown, hG⟩ hM (hw_cwV 0 hG m_790 m_792 mp_29 m_7 m_793 rfl rfl (by decide +kernel) ⟨Nat.le_of_ble_eq_true rfl, Nat.le_of_ble_eq_true rfl⟩) hK hP hD hS hA [0, 1, 2, 3, 4, 5, 6, 7, 8, 9, 10, 11, 12, 13, 14, 15, 16, 17, 18, 19, 20, 21, 22, 23] [] rfl rfl (by decide) (by decide) (by decide) (hw_recv hK hP 0 rfl rfl) rfl hl.1 rfl (Nat.le_of_ble_eq_true rfl) d_Model_dual_124 ⟨Nat.le_of_ble_eq_true rfl, Nat.le_of_ble_eq_true rfl⟩ (fun H locs hP hD hS => ?_)
                    have hP : va_P (dC, dI) vwCl (w_M cI cJ cZ aM 0 VM1 VM2 VM3 VM4 VM5 WM0 NM0 NM1 NM2 LM0 LM1 LM2 LM3 LM4 LM5 LM6 LM7 LM8 LM9 LM10 LM11 LM12 y119.1 y119.2 LM15 IM0 IM1 IM2 IM3) H := hP
                    have hD : va_D A (w_M cI cJ cZ aM 0 VM1 VM2 VM3 VM4 VM5 WM0 NM0 NM1 NM2 LM0 LM1 LM2 LM3 LM4 LM5 LM6 LM7 LM8 LM9 LM10 LM11 LM12 y119.1 y119.2 LM15 IM0 IM1 IM2 IM3) := hD
                    refine lv_iload_n hx hb d_Model_dual_127 rfl (lv_at hl 2 rfl) ?_
                    refine lv_i2l (v := x1.toInt64) hx hb d_Model_dual_128 rfl ?_
                    refine lv_ladd hx hb d_Model_dual_129 ?_
                    refine lv_iload_n hx hb d_Model_dual_130 rfl (lv_at hl 4 rfl) ?_
                    obtain ⟨y131, hy131, hR⟩ := hw_bind hR
                    have hM := c_Model_differs l dC dI cI cJ cZ H.size aM 0 VM1 VM2 VM3 VM4 VM5 WM0 NM0 NM1 NM2 LM0 LM1 LM2 LM3 LM4 LM5 LM6 LM7 LM8 LM9 LM10 LM11 LM12 y119.1 y119.2 LM15 IM0 IM1 IM2 IM3 (y124 + x1.toInt64) x3 (by first | assumption | omega) (by first | assumption | omega) (by first | assumption | omega) (by first | assumption | omega) (by first | assumption | omega) (by first | assumption | omega) (fun _ => 0) hnt.1
                    rw [hy131] at hM
                    refine hw_callVl (As := [.long (y124 + x1.toInt64), .int x3]) (rest := []) (wr := ([] : va_W)) ⟨hx, hb, hml, hown, hG⟩ hM (hw_cwV 2 hG m_820 m_822 mp_33 m_7 m_823 rfl rfl (by decide +kernel) ⟨Nat.le_of_ble_eq_true rfl, Nat.le_of_ble_eq_true rfl⟩) hK hP hD hS hA [0, 1, 2, 3, 4, 5, 6, 7, 8, 9, 10, 11, 12, 13, 14, 15, 16, 17, 18, 19, 20, 21, 22, 23] [] rfl rfl (by decide) (by decide) (by decide) (hw_recv hK hP 0 rfl rfl) rfl hl.1 rfl (Nat.le_of_ble_eq_true rfl) d_Model_dual_131 ⟨Nat.le_of_ble_eq_true rfl, Nat.le_of_ble_eq_true rfl⟩ (fun H locs hP hD hS => ?_)
                    have hP : va_P (dC, dI) vwCl (w_M cI cJ cZ aM 0 VM1 VM2 VM3 VM4 VM5 WM0 NM0 NM1 NM2 LM0 LM1 LM2 LM3 LM4 LM5 LM6 LM7 LM8 LM9 LM10 LM11 LM12 y131.2.1 y119.2 y131.2.2.1 IM0 IM1 IM2 y131.2.2.2) H := hP
                    have hD : va_D A (w_M cI cJ cZ aM 0 VM1 VM2 VM3 VM4 VM5 WM0 NM0 NM1 NM2 LM0 LM1 LM2 LM3 LM4 LM5 LM6 LM7 LM8 LM9 LM10 LM11 LM12 y131.2.1 y119.2 y131.2.2.1 IM0 IM1 IM2 y131.2.2.2) := hD
                    subst hR
                    exact W.lret (v := y131.1) hx hb hr (fun t ht hW => ⟨⟨_, (), rfl, rfl, by rw [ht]; exact hP, va_K.moved hW.alike hK, hD⟩, hS.F ht⟩) hS.2.2 d_Model_dual_134
                  · replace hR := (if_pos c107).symm.trans hR
                    refine lv_iload_n hx hb d_Model_dual_110 rfl (lv_at hl 3 rfl) ?_
                    refine lv_goto (tgt := 116) hx hb d_Model_dual_111 (by decide) ?_
                    refine lv_lconst (v := 1) hx hb d_Model_dual_116 (by decide) ?_
                    refine lv_bipush (v := (-2)) hx hb d_Model_dual_117 (by decide) ?_
                    obtain ⟨y119, hy119, hR⟩ := hw_bind hR
                    have hM := c_Model_lay l dC dI cI cJ cZ H.size aM 0 VM1 VM2 VM3 VM4 VM5 WM0 NM0 NM1 NM2 LM0 LM1 LM2 LM3 LM4 LM5 LM6 LM7 LM8 LM9 LM10 LM11 LM12 LM13 LM14 LM15 IM0 IM1 IM2 IM3 (-2) (nI x2.toNatClampNeg) 1 (-2) (by first | assumption | omega) (by first | assumption | omega) (by first | assumption | omega) (by first | assumption | omega) (by first | assumption | omega) (by first | assumption | omega) (by first | assumption | omega) (by first | assumption | omega) (by first | assumption | omega)
                    rw [hy119] at hM
                    refine hw_callVv (As := [.int (-2), .int (nI x2.toNatClampNeg), .long 1, .int (-2)]) (rest := []) (wr := ([] : va_W)) ⟨hx, hb, hml, hown, hG⟩ hM (hw_cwV 4 hG m_754 m_756 mp_21 m_7 m_757 rfl rfl (by decide +kernel) ⟨Nat.le_of_ble_eq_true rfl, Nat.le_of_ble_eq_true rfl⟩) hK hP hD hS hA [0, 1, 2, 3, 4, 5, 6, 7, 8, 9, 10, 11, 12, 13, 14, 15, 16, 17, 18, 19, 20, 21, 22, 23] [] rfl rfl (by decide) (by decide) (by decide) (hw_recv hK hP 0 rfl rfl) rfl hl.1 rfl (Nat.le_of_ble_eq_true rfl) d_Model_dual_119 ⟨Nat.le_of_ble_eq_true rfl, Nat.le_of_ble_eq_true rfl⟩ (fun H locs hP hD hS => ?_)
                    have hP : va_P (dC, dI) vwCl (w_M cI cJ cZ aM 0 VM1 VM2 VM3 VM4 VM5 WM0 NM0 NM1 NM2 LM0 LM1 LM2 LM3 LM4 LM5 LM6 LM7 LM8 LM9 LM10 LM11 LM12 y119.1 y119.2 LM15 IM0 IM1 IM2 IM3) H := hP
                    have hD : va_D A (w_M cI cJ cZ aM 0 VM1 VM2 VM3 VM4 VM5 WM0 NM0 NM1 NM2 LM0 LM1 LM2 LM3 LM4 LM5 LM6 LM7 LM8 LM9 LM10 LM11 LM12 y119.1 y119.2 LM15 IM0 IM1 IM2 IM3) := hD
                    have hnt := hv_net (VM1 := VM1) (VM2 := VM2) (VM3 := VM3) (VM4 := VM4) (NM0 := NM0) (NM1 := NM1) (NM2 := NM2) (IM0 := IM0) (IM1 := IM1) (-2) (nI x2.toNatClampNeg) 1 (-2) LM13 LM14 hvM mk4 mfw m2 (by omega) ⟨by decide, by decide⟩ (fun s hs e => absurd e (hv_m2 (by omega)))
                    rw [hy119] at hnt
                    refine lv_aload_n hx hb d_Model_dual_122 rfl (lv_at hl 1 rfl) ?_
                    refine lv_aload_n hx hb d_Model_dual_123 rfl (lv_at hl 1 rfl) ?_
                    obtain ⟨y124, hy124, hR⟩ := hw_bind hR
                    have hM := c_Model_wanted l dC dI cI cJ cZ H.size aM 0 VM1 VM2 VM3 VM4 VM5 WM0 NM0 NM1 NM2 LM0 LM1 LM2 LM3 LM4 LM5 LM6 LM7 LM8 LM9 LM10 LM11 LM12 y119.1 y119.2 LM15 IM0 IM1 IM2 IM3 (by first | assumption | omega)
                    rw [hy124] at hM
                    refine hw_callVl (As := []) (rest := [.ref (aM 0)]) (wr := ([] : va_W)) ⟨hx, hb, hml, hown, hG⟩ hM (hw_cwV 0 hG m_790 m_792 mp_29 m_7 m_793 rfl rfl (by decide +kernel) ⟨Nat.le_of_ble_eq_true rfl, Nat.le_of_ble_eq_true rfl⟩) hK hP hD hS hA [0, 1, 2, 3, 4, 5, 6, 7, 8, 9, 10, 11, 12, 13, 14, 15, 16, 17, 18, 19, 20, 21, 22, 23] [] rfl rfl (by decide) (by decide) (by decide) (hw_recv hK hP 0 rfl rfl) rfl hl.1 rfl (Nat.le_of_ble_eq_true rfl) d_Model_dual_124 ⟨Nat.le_of_ble_eq_true rfl, Nat.le_of_ble_eq_true rfl⟩ (fun H locs hP hD hS => ?_)
                    have hP : va_P (dC, dI) vwCl (w_M cI cJ cZ aM 0 VM1 VM2 VM3 VM4 VM5 WM0 NM0 NM1 NM2 LM0 LM1 LM2 LM3 LM4 LM5 LM6 LM7 LM8 LM9 LM10 LM11 LM12 y119.1 y119.2 LM15 IM0 IM1 IM2 IM3) H := hP
                    have hD : va_D A (w_M cI cJ cZ aM 0 VM1 VM2 VM3 VM4 VM5 WM0 NM0 NM1 NM2 LM0 LM1 LM2 LM3 LM4 LM5 LM6 LM7 LM8 LM9 LM10 LM11 LM12 y119.1 y119.2 LM15 IM0 IM1 IM2 IM3) := hD
                    refine lv_iload_n hx hb d_Model_dual_127 rfl (lv_at hl 2 rfl) ?_
                    refine lv_i2l (v := x1.toInt64) hx hb d_Model_dual_128 rfl ?_
                    refine lv_ladd hx hb d_Model_dual_129 ?_
                    refine lv_iload_n hx hb d_Model_dual_130 rfl (lv_at hl 4 rfl) ?_
                    obtain ⟨y131, hy131, hR⟩ := hw_bind hR
                    have hM := c_Model_differs l dC dI cI cJ cZ H.size aM 0 VM1 VM2 VM3 VM4 VM5 WM0 NM0 NM1 NM2 LM0 LM1 LM2 LM3 LM4 LM5 LM6 LM7 LM8 LM9 LM10 LM11 LM12 y119.1 y119.2 LM15 IM0 IM1 IM2 IM3 (y124 + x1.toInt64) x3 (by first | assumption | omega) (by first | assumption | omega) (by first | assumption | omega) (by first | assumption | omega) (by first | assumption | omega) (by first | assumption | omega) (fun _ => 0) hnt.1
                    rw [hy131] at hM
                    refine hw_callVl (As := [.long (y124 + x1.toInt64), .int x3]) (rest := []) (wr := ([] : va_W)) ⟨hx, hb, hml, hown, hG⟩ hM (hw_cwV 2 hG m_820 m_822 mp_33 m_7 m_823 rfl rfl (by decide +kernel) ⟨Nat.le_of_ble_eq_true rfl, Nat.le_of_ble_eq_true rfl⟩) hK hP hD hS hA [0, 1, 2, 3, 4, 5, 6, 7, 8, 9, 10, 11, 12, 13, 14, 15, 16, 17, 18, 19, 20, 21, 22, 23] [] rfl rfl (by decide) (by decide) (by decide) (hw_recv hK hP 0 rfl rfl) rfl hl.1 rfl (Nat.le_of_ble_eq_true rfl) d_Model_dual_131 ⟨Nat.le_of_ble_eq_true rfl, Nat.le_of_ble_eq_true rfl⟩ (fun H locs hP hD hS => ?_)
                    have hP : va_P (dC, dI) vwCl (w_M cI cJ cZ aM 0 VM1 VM2 VM3 VM4 VM5 WM0 NM0 NM1 NM2 LM0 LM1 LM2 LM3 LM4 LM5 LM6 LM7 LM8 LM9 LM10 LM11 LM12 y131.2.1 y119.2 y131.2.2.1 IM0 IM1 IM2 y131.2.2.2) H := hP
                    have hD : va_D A (w_M cI cJ cZ aM 0 VM1 VM2 VM3 VM4 VM5 WM0 NM0 NM1 NM2 LM0 LM1 LM2 LM3 LM4 LM5 LM6 LM7 LM8 LM9 LM10 LM11 LM12 y131.2.1 y119.2 y131.2.2.1 IM0 IM1 IM2 y131.2.2.2) := hD
                    subst hR
                    exact W.lret (v := y131.1) hx hb hr (fun t ht hW => ⟨⟨_, (), rfl, rfl, by rw [ht]; exact hP, va_K.moved hW.alike hK, hD⟩, hS.F ht⟩) hS.2.2 d_Model_dual_134
                · replace hR := (if_pos c96).symm.trans hR
                  refine lv_iload_n hx hb d_Model_dual_99 rfl (lv_at hl 3 rfl) ?_
                  refine lv_goto (tgt := 105) hx hb d_Model_dual_100 (by decide) ?_
                  refine lv_iload_n hx hb d_Model_dual_105 rfl (lv_at hl 2 rfl) ?_
                  refine lv_iconst (v := nI 1) hx hb d_Model_dual_106 (by decide) ?_
                  refine lv_icmp_ne (tgt := 114) hx hb d_Model_dual_107 (by decide) (fun c107 => ?_) (fun c107 => ?_)
                  · replace hR := (if_neg c107).symm.trans hR
                    refine lv_bipush (v := (-2)) hx hb d_Model_dual_114 (by decide) ?_
                    refine lv_lconst (v := 1) hx hb d_Model_dual_116 (by decide) ?_
                    refine lv_bipush (v := (-2)) hx hb d_Model_dual_117 (by decide) ?_
                    obtain ⟨y119, hy119, hR⟩ := hw_bind hR
                    have hM := c_Model_lay l dC dI cI cJ cZ H.size aM 0 VM1 VM2 VM3 VM4 VM5 WM0 NM0 NM1 NM2 LM0 LM1 LM2 LM3 LM4 LM5 LM6 LM7 LM8 LM9 LM10 LM11 LM12 LM13 LM14 LM15 IM0 IM1 IM2 IM3 (nI x2.toNatClampNeg) (-2) 1 (-2) (by first | assumption | omega) (by first | assumption | omega) (by first | assumption | omega) (by first | assumption | omega) (by first | assumption | omega) (by first | assumption | omega) (by first | assumption | omega) (by first | assumption | omega) (by first | assumption | omega)
                    rw [hy119] at hM
                    refine hw_callVv (As := [.int (nI x2.toNatClampNeg), .int (-2), .long 1, .int (-2)]) (rest := []) (wr := ([] : va_W)) ⟨hx, hb, hml, hown, hG⟩ hM (hw_cwV 4 hG m_754 m_756 mp_21 m_7 m_757 rfl rfl (by decide +kernel) ⟨Nat.le_of_ble_eq_true rfl, Nat.le_of_ble_eq_true rfl⟩) hK hP hD hS hA [0, 1, 2, 3, 4, 5, 6, 7, 8, 9, 10, 11, 12, 13, 14, 15, 16, 17, 18, 19, 20, 21, 22, 23] [] rfl rfl (by decide) (by decide) (by decide) (hw_recv hK hP 0 rfl rfl) rfl hl.1 rfl (Nat.le_of_ble_eq_true rfl) d_Model_dual_119 ⟨Nat.le_of_ble_eq_true rfl, Nat.le_of_ble_eq_true rfl⟩ (fun H locs hP hD hS => ?_)
                    have hP : va_P (dC, dI) vwCl (w_M cI cJ cZ aM 0 VM1 VM2 VM3 VM4 VM5 WM0 NM0 NM1 NM2 LM0 LM1 LM2 LM3 LM4 LM5 LM6 LM7 LM8 LM9 LM10 LM11 LM12 y119.1 y119.2 LM15 IM0 IM1 IM2 IM3) H := hP
                    have hD : va_D A (w_M cI cJ cZ aM 0 VM1 VM2 VM3 VM4 VM5 WM0 NM0 NM1 NM2 LM0 LM1 LM2 LM3 LM4 LM5 LM6 LM7 LM8 LM9 LM10 LM11 LM12 y119.1 y119.2 LM15 IM0 IM1 IM2 IM3) := hD
                    have hnt := hv_net (VM1 := VM1) (VM2 := VM2) (VM3 := VM3) (VM4 := VM4) (NM0 := NM0) (NM1 := NM1) (NM2 := NM2) (IM0 := IM0) (IM1 := IM1) (nI x2.toNatClampNeg) (-2) 1 (-2) LM13 LM14 hvM mk4 mfw m2 (by omega) ⟨by decide, by decide⟩ (fun s hs e => by have e2 := (nI_eq (by omega) (by omega)).mp e; rw [e2, hy82]; exact c86)
                    rw [hy119] at hnt
                    refine lv_aload_n hx hb d_Model_dual_122 rfl (lv_at hl 1 rfl) ?_
                    refine lv_aload_n hx hb d_Model_dual_123 rfl (lv_at hl 1 rfl) ?_
                    obtain ⟨y124, hy124, hR⟩ := hw_bind hR
                    have hM := c_Model_wanted l dC dI cI cJ cZ H.size aM 0 VM1 VM2 VM3 VM4 VM5 WM0 NM0 NM1 NM2 LM0 LM1 LM2 LM3 LM4 LM5 LM6 LM7 LM8 LM9 LM10 LM11 LM12 y119.1 y119.2 LM15 IM0 IM1 IM2 IM3 (by first | assumption | omega)
                    rw [hy124] at hM
                    refine hw_callVl (As := []) (rest := [.ref (aM 0)]) (wr := ([] : va_W)) ⟨hx, hb, hml, hown, hG⟩ hM (hw_cwV 0 hG m_790 m_792 mp_29 m_7 m_793 rfl rfl (by decide +kernel) ⟨Nat.le_of_ble_eq_true rfl, Nat.le_of_ble_eq_true rfl⟩) hK hP hD hS hA [0, 1, 2, 3, 4, 5, 6, 7, 8, 9, 10, 11, 12, 13, 14, 15, 16, 17, 18, 19, 20, 21, 22, 23] [] rfl rfl (by decide) (by decide) (by decide) (hw_recv hK hP 0 rfl rfl) rfl hl.1 rfl (Nat.le_of_ble_eq_true rfl) d_Model_dual_124 ⟨Nat.le_of_ble_eq_true rfl, Nat.le_of_ble_eq_true rfl⟩ (fun H locs hP hD hS => ?_)
                    have hP : va_P (dC, dI) vwCl (w_M cI cJ cZ aM 0 VM1 VM2 VM3 VM4 VM5 WM0 NM0 NM1 NM2 LM0 LM1 LM2 LM3 LM4 LM5 LM6 LM7 LM8 LM9 LM10 LM11 LM12 y119.1 y119.2 LM15 IM0 IM1 IM2 IM3) H := hP
                    have hD : va_D A (w_M cI cJ cZ aM 0 VM1 VM2 VM3 VM4 VM5 WM0 NM0 NM1 NM2 LM0 LM1 LM2 LM3 LM4 LM5 LM6 LM7 LM8 LM9 LM10 LM11 LM12 y119.1 y119.2 LM15 IM0 IM1 IM2 IM3) := hD
                    refine lv_iload_n hx hb d_Model_dual_127 rfl (lv_at hl 2 rfl) ?_
                    refine lv_i2l (v := x1.toInt64) hx hb d_Model_dual_128 rfl ?_
                    refine lv_ladd hx hb d_Model_dual_129 ?_
                    refine lv_iload_n hx hb d_Model_dual_130 rfl (lv_at hl 4 rfl) ?_
                    obtain ⟨y131, hy131, hR⟩ := hw_bind hR
                    have hM := c_Model_differs l dC dI cI cJ cZ H.size aM 0 VM1 VM2 VM3 VM4 VM5 WM0 NM0 NM1 NM2 LM0 LM1 LM2 LM3 LM4 LM5 LM6 LM7 LM8 LM9 LM10 LM11 LM12 y119.1 y119.2 LM15 IM0 IM1 IM2 IM3 (y124 + x1.toInt64) x3 (by first | assumption | omega) (by first | assumption | omega) (by first | assumption | omega) (by first | assumption | omega) (by first | assumption | omega) (by first | assumption | omega) (fun _ => 0) hnt.1
                    rw [hy131] at hM
                    refine hw_callVl (As := [.long (y124 + x1.toInt64), .int x3]) (rest := []) (wr := ([] : va_W)) ⟨hx, hb, hml, hown, hG⟩ hM (hw_cwV 2 hG m_820 m_822 mp_33 m_7 m_823 rfl rfl (by decide +kernel) ⟨Nat.le_of_ble_eq_true rfl, Nat.le_of_ble_eq_true rfl⟩) hK hP hD hS hA [0, 1, 2, 3, 4, 5, 6, 7, 8, 9, 10, 11, 12, 13, 14, 15, 16, 17, 18, 19, 20, 21, 22, 23] [] rfl rfl (by decide) (by decide) (by decide) (hw_recv hK hP 0 rfl rfl) rfl hl.1 rfl (Nat.le_of_ble_eq_true rfl) d_Model_dual_131 ⟨Nat.le_of_ble_eq_true rfl, Nat.le_of_ble_eq_true rfl⟩ (fun H locs hP hD hS => ?_)
                    have hP : va_P (dC, dI) vwCl (w_M cI cJ cZ aM 0 VM1 VM2 VM3 VM4 VM5 WM0 NM0 NM1 NM2 LM0 LM1 LM2 LM3 LM4 LM5 LM6 LM7 LM8 LM9 LM10 LM11 LM12 y131.2.1 y119.2 y131.2.2.1 IM0 IM1 IM2 y131.2.2.2) H := hP
                    have hD : va_D A (w_M cI cJ cZ aM 0 VM1 VM2 VM3 VM4 VM5 WM0 NM0 NM1 NM2 LM0 LM1 LM2 LM3 LM4 LM5 LM6 LM7 LM8 LM9 LM10 LM11 LM12 y131.2.1 y119.2 y131.2.2.1 IM0 IM1 IM2 y131.2.2.2) := hD
                    subst hR
                    exact W.lret (v := y131.1) hx hb hr (fun t ht hW => ⟨⟨_, (), rfl, rfl, by rw [ht]; exact hP, va_K.moved hW.alike hK, hD⟩, hS.F ht⟩) hS.2.2 d_Model_dual_134
                  · replace hR := (if_pos c107).symm.trans hR
                    refine lv_iload_n hx hb d_Model_dual_110 rfl (lv_at hl 3 rfl) ?_
                    refine lv_goto (tgt := 116) hx hb d_Model_dual_111 (by decide) ?_
                    refine lv_lconst (v := 1) hx hb d_Model_dual_116 (by decide) ?_
                    refine lv_bipush (v := (-2)) hx hb d_Model_dual_117 (by decide) ?_
                    obtain ⟨y119, hy119, hR⟩ := hw_bind hR
                    have hM := c_Model_lay l dC dI cI cJ cZ H.size aM 0 VM1 VM2 VM3 VM4 VM5 WM0 NM0 NM1 NM2 LM0 LM1 LM2 LM3 LM4 LM5 LM6 LM7 LM8 LM9 LM10 LM11 LM12 LM13 LM14 LM15 IM0 IM1 IM2 IM3 (nI x2.toNatClampNeg) (nI x2.toNatClampNeg) 1 (-2) (by first | assumption | omega) (by first | assumption | omega) (by first | assumption | omega) (by first | assumption | omega) (by first | assumption | omega) (by first | assumption | omega) (by first | assumption | omega) (by first | assumption | omega) (by first | assumption | omega)
                    rw [hy119] at hM
                    refine hw_callVv (As := [.int (nI x2.toNatClampNeg), .int (nI x2.toNatClampNeg), .long 1, .int (-2)]) (rest := []) (wr := ([] : va_W)) ⟨hx, hb, hml, hown, hG⟩ hM (hw_cwV 4 hG m_754 m_756 mp_21 m_7 m_757 rfl rfl (by decide +kernel) ⟨Nat.le_of_ble_eq_true rfl, Nat.le_of_ble_eq_true rfl⟩) hK hP hD hS hA [0, 1, 2, 3, 4, 5, 6, 7, 8, 9, 10, 11, 12, 13, 14, 15, 16, 17, 18, 19, 20, 21, 22, 23] [] rfl rfl (by decide) (by decide) (by decide) (hw_recv hK hP 0 rfl rfl) rfl hl.1 rfl (Nat.le_of_ble_eq_true rfl) d_Model_dual_119 ⟨Nat.le_of_ble_eq_true rfl, Nat.le_of_ble_eq_true rfl⟩ (fun H locs hP hD hS => ?_)
                    have hP : va_P (dC, dI) vwCl (w_M cI cJ cZ aM 0 VM1 VM2 VM3 VM4 VM5 WM0 NM0 NM1 NM2 LM0 LM1 LM2 LM3 LM4 LM5 LM6 LM7 LM8 LM9 LM10 LM11 LM12 y119.1 y119.2 LM15 IM0 IM1 IM2 IM3) H := hP
                    have hD : va_D A (w_M cI cJ cZ aM 0 VM1 VM2 VM3 VM4 VM5 WM0 NM0 NM1 NM2 LM0 LM1 LM2 LM3 LM4 LM5 LM6 LM7 LM8 LM9 LM10 LM11 LM12 y119.1 y119.2 LM15 IM0 IM1 IM2 IM3) := hD
                    have hnt := hv_net (VM1 := VM1) (VM2 := VM2) (VM3 := VM3) (VM4 := VM4) (NM0 := NM0) (NM1 := NM1) (NM2 := NM2) (IM0 := IM0) (IM1 := IM1) (nI x2.toNatClampNeg) (nI x2.toNatClampNeg) 1 (-2) LM13 LM14 hvM mk4 mfw m2 (by omega) ⟨by decide, by decide⟩ (fun s hs e => by have e2 := (nI_eq (by omega) (by omega)).mp e; rw [e2, hy82]; exact c86)
                    rw [hy119] at hnt
                    refine lv_aload_n hx hb d_Model_dual_122 rfl (lv_at hl 1 rfl) ?_
                    refine lv_aload_n hx hb d_Model_dual_123 rfl (lv_at hl 1 rfl) ?_
                    obtain ⟨y124, hy124, hR⟩ := hw_bind hR
                    have hM := c_Model_wanted l dC dI cI cJ cZ H.size aM 0 VM1 VM2 VM3 VM4 VM5 WM0 NM0 NM1 NM2 LM0 LM1 LM2 LM3 LM4 LM5 LM6 LM7 LM8 LM9 LM10 LM11 LM12 y119.1 y119.2 LM15 IM0 IM1 IM2 IM3 (by first | assumption | omega)
                    rw [hy124] at hM
                    refine hw_callVl (As := []) (rest := [.ref (aM 0)]) (wr := ([] : va_W)) ⟨hx, hb, hml, hown, hG⟩ hM (hw_cwV 0 hG m_790 m_792 mp_29 m_7 m_793 rfl rfl (by decide +kernel) ⟨Nat.le_of_ble_eq_true rfl, Nat.le_of_ble_eq_true rfl⟩) hK hP hD hS hA [0, 1, 2, 3, 4, 5, 6, 7, 8, 9, 10, 11, 12, 13, 14, 15, 16, 17, 18, 19, 20, 21, 22, 23] [] rfl rfl (by decide) (by decide) (by decide) (hw_recv hK hP 0 rfl rfl) rfl hl.1 rfl (Nat.le_of_ble_eq_true rfl) d_Model_dual_124 ⟨Nat.le_of_ble_eq_true rfl, Nat.le_of_ble_eq_true rfl⟩ (fun H locs hP hD hS => ?_)
                    have hP : va_P (dC, dI) vwCl (w_M cI cJ cZ aM 0 VM1 VM2 VM3 VM4 VM5 WM0 NM0 NM1 NM2 LM0 LM1 LM2 LM3 LM4 LM5 LM6 LM7 LM8 LM9 LM10 LM11 LM12 y119.1 y119.2 LM15 IM0 IM1 IM2 IM3) H := hP
                    have hD : va_D A (w_M cI cJ cZ aM 0 VM1 VM2 VM3 VM4 VM5 WM0 NM0 NM1 NM2 LM0 LM1 LM2 LM3 LM4 LM5 LM6 LM7 LM8 LM9 LM10 LM11 LM12 y119.1 y119.2 LM15 IM0 IM1 IM2 IM3) := hD
                    refine lv_iload_n hx hb d_Model_dual_127 rfl (lv_at hl 2 rfl) ?_
                    refine lv_i2l (v := x1.toInt64) hx hb d_Model_dual_128 rfl ?_
                    refine lv_ladd hx hb d_Model_dual_129 ?_
                    refine lv_iload_n hx hb d_Model_dual_130 rfl (lv_at hl 4 rfl) ?_
                    obtain ⟨y131, hy131, hR⟩ := hw_bind hR
                    have hM := c_Model_differs l dC dI cI cJ cZ H.size aM 0 VM1 VM2 VM3 VM4 VM5 WM0 NM0 NM1 NM2 LM0 LM1 LM2 LM3 LM4 LM5 LM6 LM7 LM8 LM9 LM10 LM11 LM12 y119.1 y119.2 LM15 IM0 IM1 IM2 IM3 (y124 + x1.toInt64) x3 (by first | assumption | omega) (by first | assumption | omega) (by first | assumption | omega) (by first | assumption | omega) (by first | assumption | omega) (by first | assumption | omega) (fun _ => 0) hnt.1
                    rw [hy131] at hM
                    refine hw_callVl (As := [.long (y124 + x1.toInt64), .int x3]) (rest := []) (wr := ([] : va_W)) ⟨hx, hb, hml, hown, hG⟩ hM (hw_cwV 2 hG m_820 m_822 mp_33 m_7 m_823 rfl rfl (by decide +kernel) ⟨Nat.le_of_ble_eq_true rfl, Nat.le_of_ble_eq_true rfl⟩) hK hP hD hS hA [0, 1, 2, 3, 4, 5, 6, 7, 8, 9, 10, 11, 12, 13, 14, 15, 16, 17, 18, 19, 20, 21, 22, 23] [] rfl rfl (by decide) (by decide) (by decide) (hw_recv hK hP 0 rfl rfl) rfl hl.1 rfl (Nat.le_of_ble_eq_true rfl) d_Model_dual_131 ⟨Nat.le_of_ble_eq_true rfl, Nat.le_of_ble_eq_true rfl⟩ (fun H locs hP hD hS => ?_)
                    have hP : va_P (dC, dI) vwCl (w_M cI cJ cZ aM 0 VM1 VM2 VM3 VM4 VM5 WM0 NM0 NM1 NM2 LM0 LM1 LM2 LM3 LM4 LM5 LM6 LM7 LM8 LM9 LM10 LM11 LM12 y131.2.1 y119.2 y131.2.2.1 IM0 IM1 IM2 y131.2.2.2) H := hP
                    have hD : va_D A (w_M cI cJ cZ aM 0 VM1 VM2 VM3 VM4 VM5 WM0 NM0 NM1 NM2 LM0 LM1 LM2 LM3 LM4 LM5 LM6 LM7 LM8 LM9 LM10 LM11 LM12 y131.2.1 y119.2 y131.2.2.1 IM0 IM1 IM2 y131.2.2.2) := hD
                    subst hR
                    exact W.lret (v := y131.1) hx hb hr (fun t ht hW => ⟨⟨_, (), rfl, rfl, by rw [ht]; exact hP, va_K.moved hW.alike hK, hD⟩, hS.F ht⟩) hS.2.2 d_Model_dual_134
              · replace hR := (if_pos c86).symm.trans hR
                refine lv_ldc2 (v := (-1)) hx hb hown (hG _ m_806) d_Model_dual_90 ?_
                subst hR
                exact W.lret (v := (-1)) hx hb hr (fun t ht hW => ⟨⟨_, (), rfl, rfl, by rw [ht]; exact hP, va_K.moved hW.alike hK, hD⟩, hS.F ht⟩) hS.2.2 d_Model_dual_93
        · replace hR := (if_pos c40).symm.trans hR
          refine lv_iload_n hx hb d_Model_dual_43 rfl (lv_at hl 1 rfl) ?_
          refine lv_iconst (v := nI 1) hx hb d_Model_dual_44 (by decide) ?_
          refine lv_icmp_ne (tgt := 68) hx hb d_Model_dual_45 (by decide) (fun c45 => ?_) (fun c45 => ?_)
          · replace hR := (if_neg c45).symm.trans hR
            refine lv_iconst (v := nI 0) hx hb d_Model_dual_68 (by decide) ?_
            refine lv_istore (lv' := [(4, .int (nI 0)), (0, .ref (aM 0)), (1, .int x1), (2, .int x2), (3, .int x3)]) hx hb d_Model_dual_69 hl (by decide) rfl (fun ls hl => ?_)
            refine lv_iload hx hb d_Model_dual_71 (lv_at hl 0 rfl) ?_
            refine hw_if_eq (tgt := 90) hx hb d_Model_dual_73 (by decide) (by omega) (fun c73 => ?_) (fun c73 => ?_)
            · replace hR := (if_pos c73).symm.trans hR
              refine lv_ldc2 (v := (-1)) hx hb hown (hG _ m_806) d_Model_dual_90 ?_
              subst hR
              exact W.lret (v := (-1)) hx hb hr (fun t ht hW => ⟨⟨_, (), rfl, rfl, by rw [ht]; exact hP, va_K.moved hW.alike hK, hD⟩, hS.F ht⟩) hS.2.2 d_Model_dual_93
            · replace hR := (if_neg c73).symm.trans hR
              exact absurd rfl c73
          · replace hR := (if_pos c45).symm.trans hR
            refine lv_iload_n hx hb d_Model_dual_48 rfl (lv_at hl 2 rfl) ?_
            refine lv_i2l (v := x2.toInt64) hx hb d_Model_dual_49 rfl ?_
            refine lv_lconst (v := 0) hx hb d_Model_dual_50 (by decide) ?_
            refine lv_aload_n hx hb d_Model_dual_51 rfl (lv_at hl 0 rfl) ?_
            refine va_get (D := (dC, dI)) (ci := 5) (v := .int (nI VM2)) (C := R_Model) (T := T_Model) (N := 30) hx hb hG in_Model hown hK hP 0 rfl rfl 6 (by decide) (hG _ m_620) (fun _ h9 => h9) rfl d_Model_dual_52 ?_
            refine lv_i2l (v := (nI VM2).toInt64) hx hb d_Model_dual_55 rfl ?_
            refine lv_lconst (v := 1) hx hb d_Model_dual_56 (by decide) ?_
            refine lv_lsub hx hb d_Model_dual_57 ?_
            obtain ⟨y58, hy58, hR⟩ := hw_bind hR
            have hM := c_Model_isIn l dC dI cI cJ cZ H.size x2.toInt64 0 (((nI VM2).toInt64) - 1)
            rw [hy58] at hM
            refine hw_callSi (As := [.long x2.toInt64, .long 0, .long (((nI VM2).toInt64) - 1)]) (rest := []) (wr := w_M cI cJ cZ aM 0 VM1 VM2 VM3 VM4 VM5 WM0 NM0 NM1 NM2 LM0 LM1 LM2 LM3 LM4 LM5 LM6 LM7 LM8 LM9 LM10 LM11 LM12 LM13 LM14 LM15 IM0 IM1 IM2 IM3) ⟨hx, hb, hml, hown, hG⟩ hM (hw_cwS 3 hG m_714 m_715 m_7 m_716 rfl rfl (by decide +kernel) ⟨Nat.le_of_ble_eq_true rfl, Nat.le_of_ble_eq_true rfl⟩) hK hP hD hS hA [] [0, 1, 2, 3, 4, 5, 6, 7, 8, 9, 10, 11, 12, 13, 14, 15, 16, 17, 18, 19, 20, 21, 22, 23] rfl rfl (by decide) (by decide) (by decide) rfl hl.1 rfl (Nat.le_of_ble_eq_true rfl) d_Model_dual_58 ⟨Nat.le_of_ble_eq_true rfl, Nat.le_of_ble_eq_true rfl⟩ (fun H locs hP hD hS => ?_)
            have hP : va_P (dC, dI) vwCl (w_M cI cJ cZ aM 0 VM1 VM2 VM3 VM4 VM5 WM0 NM0 NM1 NM2 LM0 LM1 LM2 LM3 LM4 LM5 LM6 LM7 LM8 LM9 LM10 LM11 LM12 LM13 LM14 LM15 IM0 IM1 IM2 IM3) H := hP
            have hD : va_D A (w_M cI cJ cZ aM 0 VM1 VM2 VM3 VM4 VM5 WM0 NM0 NM1 NM2 LM0 LM1 LM2 LM3 LM4 LM5 LM6 LM7 LM8 LM9 LM10 LM11 LM12 LM13 LM14 LM15 IM0 IM1 IM2 IM3) := hD
            have hbl58 := hm_in (x := x2) (n := VM2) (hi := ((nI VM2).toInt64) - 1) (hm_fm (by omega))
            rw [hy58] at hbl58
            refine lv_if_eq (tgt := 68) hx hb d_Model_dual_61 (by decide) (fun c61 => ?_) (fun c61 => ?_)
            · replace hR := (if_pos c61).symm.trans hR
              refine lv_iconst (v := nI 0) hx hb d_Model_dual_68 (by decide) ?_
              refine lv_istore (lv' := [(4, .int (nI 0)), (0, .ref (aM 0)), (1, .int x1), (2, .int x2), (3, .int x3)]) hx hb d_Model_dual_69 hl (by decide) rfl (fun ls hl => ?_)
              refine lv_iload hx hb d_Model_dual_71 (lv_at hl 0 rfl) ?_
              refine hw_if_eq (tgt := 90) hx hb d_Model_dual_73 (by decide) (by omega) (fun c73 => ?_) (fun c73 => ?_)
              · replace hR := (if_pos c73).symm.trans hR
                refine lv_ldc2 (v := (-1)) hx hb hown (hG _ m_806) d_Model_dual_90 ?_
                subst hR
                exact W.lret (v := (-1)) hx hb hr (fun t ht hW => ⟨⟨_, (), rfl, rfl, by rw [ht]; exact hP, va_K.moved hW.alike hK, hD⟩, hS.F ht⟩) hS.2.2 d_Model_dual_93
              · replace hR := (if_neg c73).symm.trans hR
                exact absurd rfl c73
            · replace hR := (if_neg c61).symm.trans hR
              refine lv_iconst (v := nI 1) hx hb d_Model_dual_64 (by decide) ?_
              refine lv_goto (tgt := 69) hx hb d_Model_dual_65 (by decide) ?_
              refine lv_istore (lv' := [(4, .int (nI 1)), (0, .ref (aM 0)), (1, .int x1), (2, .int x2), (3, .int x3)]) hx hb d_Model_dual_69 hl (by decide) rfl (fun ls hl => ?_)
              refine lv_iload hx hb d_Model_dual_71 (lv_at hl 0 rfl) ?_
              refine hw_if_eq (tgt := 90) hx hb d_Model_dual_73 (by decide) (by omega) (fun c73 => ?_) (fun c73 => ?_)
              · replace hR := (if_pos c73).symm.trans hR
                refine lv_ldc2 (v := (-1)) hx hb hown (hG _ m_806) d_Model_dual_90 ?_
                subst hR
                exact W.lret (v := (-1)) hx hb hr (fun t ht hW => ⟨⟨_, (), rfl, rfl, by rw [ht]; exact hP, va_K.moved hW.alike hK, hD⟩, hS.F ht⟩) hS.2.2 d_Model_dual_93
              · replace hR := (if_neg c73).symm.trans hR
                refine lv_iload_n hx hb d_Model_dual_76 rfl (lv_at hl 2 rfl) ?_
                refine lv_if_ne (tgt := 94) hx hb d_Model_dual_77 (by decide) (fun c77 => ?_) (fun c77 => ?_)
                · replace hR := (if_neg c77).symm.trans hR
                  refine lv_aload_n hx hb d_Model_dual_94 rfl (lv_at hl 1 rfl) ?_
                  refine lv_iload_n hx hb d_Model_dual_95 rfl (lv_at hl 2 rfl) ?_
                  refine lv_if_ne (tgt := 103) hx hb d_Model_dual_96 (by decide) (fun c96 => ?_) (fun c96 => ?_)
                  · replace hR := (if_neg c96).symm.trans hR
                    refine lv_bipush (v := (-2)) hx hb d_Model_dual_103 (by decide) ?_
                    refine lv_iload_n hx hb d_Model_dual_105 rfl (lv_at hl 2 rfl) ?_
                    refine lv_iconst (v := nI 1) hx hb d_Model_dual_106 (by decide) ?_
                    refine lv_icmp_ne (tgt := 114) hx hb d_Model_dual_107 (by decide) (fun c107 => ?_) (fun c107 => ?_)
                    · replace hR := (if_neg c107).symm.trans hR
                      refine lv_bipush (v := (-2)) hx hb d_Model_dual_114 (by decide) ?_
                      refine lv_lconst (v := 1) hx hb d_Model_dual_116 (by decide) ?_
                      refine lv_bipush (v := (-2)) hx hb d_Model_dual_117 (by decide) ?_
                      obtain ⟨y119, hy119, hR⟩ := hw_bind hR
                      have hM := c_Model_lay l dC dI cI cJ cZ H.size aM 0 VM1 VM2 VM3 VM4 VM5 WM0 NM0 NM1 NM2 LM0 LM1 LM2 LM3 LM4 LM5 LM6 LM7 LM8 LM9 LM10 LM11 LM12 LM13 LM14 LM15 IM0 IM1 IM2 IM3 (-2) (-2) 1 (-2) (by first | assumption | omega) (by first | assumption | omega) (by first | assumption | omega) (by first | assumption | omega) (by first | assumption | omega) (by first | assumption | omega) (by first | assumption | omega) (by first | assumption | omega) (by first | assumption | omega)
                      rw [hy119] at hM
                      refine hw_callVv (As := [.int (-2), .int (-2), .long 1, .int (-2)]) (rest := []) (wr := ([] : va_W)) ⟨hx, hb, hml, hown, hG⟩ hM (hw_cwV 4 hG m_754 m_756 mp_21 m_7 m_757 rfl rfl (by decide +kernel) ⟨Nat.le_of_ble_eq_true rfl, Nat.le_of_ble_eq_true rfl⟩) hK hP hD hS hA [0, 1, 2, 3, 4, 5, 6, 7, 8, 9, 10, 11, 12, 13, 14, 15, 16, 17, 18, 19, 20, 21, 22, 23] [] rfl rfl (by decide) (by decide) (by decide) (hw_recv hK hP 0 rfl rfl) rfl hl.1 rfl (Nat.le_of_ble_eq_true rfl) d_Model_dual_119 ⟨Nat.le_of_ble_eq_true rfl, Nat.le_of_ble_eq_true rfl⟩ (fun H locs hP hD hS => ?_)
                      have hP : va_P (dC, dI) vwCl (w_M cI cJ cZ aM 0 VM1 VM2 VM3 VM4 VM5 WM0 NM0 NM1 NM2 LM0 LM1 LM2 LM3 LM4 LM5 LM6 LM7 LM8 LM9 LM10 LM11 LM12 y119.1 y119.2 LM15 IM0 IM1 IM2 IM3) H := hP
                      have hD : va_D A (w_M cI cJ cZ aM 0 VM1 VM2 VM3 VM4 VM5 WM0 NM0 NM1 NM2 LM0 LM1 LM2 LM3 LM4 LM5 LM6 LM7 LM8 LM9 LM10 LM11 LM12 y119.1 y119.2 LM15 IM0 IM1 IM2 IM3) := hD
                      have hnt := hv_net (VM1 := VM1) (VM2 := VM2) (VM3 := VM3) (VM4 := VM4) (NM0 := NM0) (NM1 := NM1) (NM2 := NM2) (IM0 := IM0) (IM1 := IM1) (-2) (-2) 1 (-2) LM13 LM14 hvM mk4 mfw m2 (by omega) ⟨by decide, by decide⟩ (fun s hs e => absurd e (hv_m2 (by omega)))
                      rw [hy119] at hnt
                      refine lv_aload_n hx hb d_Model_dual_122 rfl (lv_at hl 1 rfl) ?_
                      refine lv_aload_n hx hb d_Model_dual_123 rfl (lv_at hl 1 rfl) ?_
                      obtain ⟨y124, hy124, hR⟩ := hw_bind hR
                      have hM := c_Model_wanted l dC dI cI cJ cZ H.size aM 0 VM1 VM2 VM3 VM4 VM5 WM0 NM0 NM1 NM2 LM0 LM1 LM2 LM3 LM4 LM5 LM6 LM7 LM8 LM9 LM10 LM11 LM12 y119.1 y119.2 LM15 IM0 IM1 IM2 IM3 (by first | assumption | omega)
                      rw [hy124] at hM
                      refine hw_callVl (As := []) (rest := [.ref (aM 0)]) (wr := ([] : va_W)) ⟨hx, hb, hml, hown, hG⟩ hM (hw_cwV 0 hG m_790 m_792 mp_29 m_7 m_793 rfl rfl (by decide +kernel) ⟨Nat.le_of_ble_eq_true rfl, Nat.le_of_ble_eq_true rfl⟩) hK hP hD hS hA [0, 1, 2, 3, 4, 5, 6, 7, 8, 9, 10, 11, 12, 13, 14, 15, 16, 17, 18, 19, 20, 21, 22, 23] [] rfl rfl (by decide) (by decide) (by decide) (hw_recv hK hP 0 rfl rfl) rfl hl.1 rfl (Nat.le_of_ble_eq_true rfl) d_Model_dual_124 ⟨Nat.le_of_ble_eq_true rfl, Nat.le_of_ble_eq_true rfl⟩ (fun H locs hP hD hS => ?_)
                      have hP : va_P (dC, dI) vwCl (w_M cI cJ cZ aM 0 VM1 VM2 VM3 VM4 VM5 WM0 NM0 NM1 NM2 LM0 LM1 LM2 LM3 LM4 LM5 LM6 LM7 LM8 LM9 LM10 LM11 LM12 y119.1 y119.2 LM15 IM0 IM1 IM2 IM3) H := hP
                      have hD : va_D A (w_M cI cJ cZ aM 0 VM1 VM2 VM3 VM4 VM5 WM0 NM0 NM1 NM2 LM0 LM1 LM2 LM3 LM4 LM5 LM6 LM7 LM8 LM9 LM10 LM11 LM12 y119.1 y119.2 LM15 IM0 IM1 IM2 IM3) := hD
                      refine lv_iload_n hx hb d_Model_dual_127 rfl (lv_at hl 2 rfl) ?_
                      refine lv_i2l (v := x1.toInt64) hx hb d_Model_dual_128 rfl ?_
                      refine lv_ladd hx hb d_Model_dual_129 ?_
                      refine lv_iload_n hx hb d_Model_dual_130 rfl (lv_at hl 4 rfl) ?_
                      obtain ⟨y131, hy131, hR⟩ := hw_bind hR
                      have hM := c_Model_differs l dC dI cI cJ cZ H.size aM 0 VM1 VM2 VM3 VM4 VM5 WM0 NM0 NM1 NM2 LM0 LM1 LM2 LM3 LM4 LM5 LM6 LM7 LM8 LM9 LM10 LM11 LM12 y119.1 y119.2 LM15 IM0 IM1 IM2 IM3 (y124 + x1.toInt64) x3 (by first | assumption | omega) (by first | assumption | omega) (by first | assumption | omega) (by first | assumption | omega) (by first | assumption | omega) (by first | assumption | omega) (fun _ => 0) hnt.1
                      rw [hy131] at hM
                      refine hw_callVl (As := [.long (y124 + x1.toInt64), .int x3]) (rest := []) (wr := ([] : va_W)) ⟨hx, hb, hml, hown, hG⟩ hM (hw_cwV 2 hG m_820 m_822 mp_33 m_7 m_823 rfl rfl (by decide +kernel) ⟨Nat.le_of_ble_eq_true rfl, Nat.le_of_ble_eq_true rfl⟩) hK hP hD hS hA [0, 1, 2, 3, 4, 5, 6, 7, 8, 9, 10, 11, 12, 13, 14, 15, 16, 17, 18, 19, 20, 21, 22, 23] [] rfl rfl (by decide) (by decide) (by decide) (hw_recv hK hP 0 rfl rfl) rfl hl.1 rfl (Nat.le_of_ble_eq_true rfl) d_Model_dual_131 ⟨Nat.le_of_ble_eq_true rfl, Nat.le_of_ble_eq_true rfl⟩ (fun H locs hP hD hS => ?_)
                      have hP : va_P (dC, dI) vwCl (w_M cI cJ cZ aM 0 VM1 VM2 VM3 VM4 VM5 WM0 NM0 NM1 NM2 LM0 LM1 LM2 LM3 LM4 LM5 LM6 LM7 LM8 LM9 LM10 LM11 LM12 y131.2.1 y119.2 y131.2.2.1 IM0 IM1 IM2 y131.2.2.2) H := hP
                      have hD : va_D A (w_M cI cJ cZ aM 0 VM1 VM2 VM3 VM4 VM5 WM0 NM0 NM1 NM2 LM0 LM1 LM2 LM3 LM4 LM5 LM6 LM7 LM8 LM9 LM10 LM11 LM12 y131.2.1 y119.2 y131.2.2.1 IM0 IM1 IM2 y131.2.2.2) := hD
                      subst hR
                      exact W.lret (v := y131.1) hx hb hr (fun t ht hW => ⟨⟨_, (), rfl, rfl, by rw [ht]; exact hP, va_K.moved hW.alike hK, hD⟩, hS.F ht⟩) hS.2.2 d_Model_dual_134
                    · replace hR := (if_pos c107).symm.trans hR
                      refine lv_iload_n hx hb d_Model_dual_110 rfl (lv_at hl 3 rfl) ?_
                      refine lv_goto (tgt := 116) hx hb d_Model_dual_111 (by decide) ?_
                      refine lv_lconst (v := 1) hx hb d_Model_dual_116 (by decide) ?_
                      refine lv_bipush (v := (-2)) hx hb d_Model_dual_117 (by decide) ?_
                      obtain ⟨y119, hy119, hR⟩ := hw_bind hR
                      have hM := c_Model_lay l dC dI cI cJ cZ H.size aM 0 VM1 VM2 VM3 VM4 VM5 WM0 NM0 NM1 NM2 LM0 LM1 LM2 LM3 LM4 LM5 LM6 LM7 LM8 LM9 LM10 LM11 LM12 LM13 LM14 LM15 IM0 IM1 IM2 IM3 (-2) x2 1 (-2) (by first | assumption | omega) (by first | assumption | omega) (by first | assumption | omega) (by first | assumption | omega) (by first | assumption | omega) (by first | assumption | omega) (by first | assumption | omega) (by first | assumption | omega) (by first | assumption | omega)
                      rw [hy119] at hM
                      refine hw_callVv (As := [.int (-2), .int x2, .long 1, .int (-2)]) (rest := []) (wr := ([] : va_W)) ⟨hx, hb, hml, hown, hG⟩ hM (hw_cwV 4 hG m_754 m_756 mp_21 m_7 m_757 rfl rfl (by decide +kernel) ⟨Nat.le_of_ble_eq_true rfl, Nat.le_of_ble_eq_true rfl⟩) hK hP hD hS hA [0, 1, 2, 3, 4, 5, 6, 7, 8, 9, 10, 11, 12, 13, 14, 15, 16, 17, 18, 19, 20, 21, 22, 23] [] rfl rfl (by decide) (by decide) (by decide) (hw_recv hK hP 0 rfl rfl) rfl hl.1 rfl (Nat.le_of_ble_eq_true rfl) d_Model_dual_119 ⟨Nat.le_of_ble_eq_true rfl, Nat.le_of_ble_eq_true rfl⟩ (fun H locs hP hD hS => ?_)
                      have hP : va_P (dC, dI) vwCl (w_M cI cJ cZ aM 0 VM1 VM2 VM3 VM4 VM5 WM0 NM0 NM1 NM2 LM0 LM1 LM2 LM3 LM4 LM5 LM6 LM7 LM8 LM9 LM10 LM11 LM12 y119.1 y119.2 LM15 IM0 IM1 IM2 IM3) H := hP
                      have hD : va_D A (w_M cI cJ cZ aM 0 VM1 VM2 VM3 VM4 VM5 WM0 NM0 NM1 NM2 LM0 LM1 LM2 LM3 LM4 LM5 LM6 LM7 LM8 LM9 LM10 LM11 LM12 y119.1 y119.2 LM15 IM0 IM1 IM2 IM3) := hD
                      have hnt := hv_net (VM1 := VM1) (VM2 := VM2) (VM3 := VM3) (VM4 := VM4) (NM0 := NM0) (NM1 := NM1) (NM2 := NM2) (IM0 := IM0) (IM1 := IM1) (-2) x2 1 (-2) LM13 LM14 hvM mk4 mfw m2 (by omega) ⟨by decide, by decide⟩ (fun s hs e => absurd e (hv_m2 (by omega)))
                      rw [hy119] at hnt
                      refine lv_aload_n hx hb d_Model_dual_122 rfl (lv_at hl 1 rfl) ?_
                      refine lv_aload_n hx hb d_Model_dual_123 rfl (lv_at hl 1 rfl) ?_
                      obtain ⟨y124, hy124, hR⟩ := hw_bind hR
                      have hM := c_Model_wanted l dC dI cI cJ cZ H.size aM 0 VM1 VM2 VM3 VM4 VM5 WM0 NM0 NM1 NM2 LM0 LM1 LM2 LM3 LM4 LM5 LM6 LM7 LM8 LM9 LM10 LM11 LM12 y119.1 y119.2 LM15 IM0 IM1 IM2 IM3 (by first | assumption | omega)
                      rw [hy124] at hM
                      refine hw_callVl (As := []) (rest := [.ref (aM 0)]) (wr := ([] : va_W)) ⟨hx, hb, hml, hown, hG⟩ hM (hw_cwV 0 hG m_790 m_792 mp_29 m_7 m_793 rfl rfl (by decide +kernel) ⟨Nat.le_of_ble_eq_true rfl, Nat.le_of_ble_eq_true rfl⟩) hK hP hD hS hA [0, 1, 2, 3, 4, 5, 6, 7, 8, 9, 10, 11, 12, 13, 14, 15, 16, 17, 18, 19, 20, 21, 22, 23] [] rfl rfl (by decide) (by decide) (by decide) (hw_recv hK hP 0 rfl rfl) rfl hl.1 rfl (Nat.le_of_ble_eq_true rfl) d_Model_dual_124 ⟨Nat.le_of_ble_eq_true rfl, Nat.le_of_ble_eq_true rfl⟩ (fun H locs hP hD hS => ?_)
                      have hP : va_P (dC, dI) vwCl (w_M cI cJ cZ aM 0 VM1 VM2 VM3 VM4 VM5 WM0 NM0 NM1 NM2 LM0 LM1 LM2 LM3 LM4 LM5 LM6 LM7 LM8 LM9 LM10 LM11 LM12 y119.1 y119.2 LM15 IM0 IM1 IM2 IM3) H := hP
                      have hD : va_D A (w_M cI cJ cZ aM 0 VM1 VM2 VM3 VM4 VM5 WM0 NM0 NM1 NM2 LM0 LM1 LM2 LM3 LM4 LM5 LM6 LM7 LM8 LM9 LM10 LM11 LM12 y119.1 y119.2 LM15 IM0 IM1 IM2 IM3) := hD
                      refine lv_iload_n hx hb d_Model_dual_127 rfl (lv_at hl 2 rfl) ?_
                      refine lv_i2l (v := x1.toInt64) hx hb d_Model_dual_128 rfl ?_
                      refine lv_ladd hx hb d_Model_dual_129 ?_
                      refine lv_iload_n hx hb d_Model_dual_130 rfl (lv_at hl 4 rfl) ?_
                      obtain ⟨y131, hy131, hR⟩ := hw_bind hR
                      have hM := c_Model_differs l dC dI cI cJ cZ H.size aM 0 VM1 VM2 VM3 VM4 VM5 WM0 NM0 NM1 NM2 LM0 LM1 LM2 LM3 LM4 LM5 LM6 LM7 LM8 LM9 LM10 LM11 LM12 y119.1 y119.2 LM15 IM0 IM1 IM2 IM3 (y124 + x1.toInt64) x3 (by first | assumption | omega) (by first | assumption | omega) (by first | assumption | omega) (by first | assumption | omega) (by first | assumption | omega) (by first | assumption | omega) (fun _ => 0) hnt.1
                      rw [hy131] at hM
                      refine hw_callVl (As := [.long (y124 + x1.toInt64), .int x3]) (rest := []) (wr := ([] : va_W)) ⟨hx, hb, hml, hown, hG⟩ hM (hw_cwV 2 hG m_820 m_822 mp_33 m_7 m_823 rfl rfl (by decide +kernel) ⟨Nat.le_of_ble_eq_true rfl, Nat.le_of_ble_eq_true rfl⟩) hK hP hD hS hA [0, 1, 2, 3, 4, 5, 6, 7, 8, 9, 10, 11, 12, 13, 14, 15, 16, 17, 18, 19, 20, 21, 22, 23] [] rfl rfl (by decide) (by decide) (by decide) (hw_recv hK hP 0 rfl rfl) rfl hl.1 rfl (Nat.le_of_ble_eq_true rfl) d_Model_dual_131 ⟨Nat.le_of_ble_eq_true rfl, Nat.le_of_ble_eq_true rfl⟩ (fun H locs hP hD hS => ?_)
                      have hP : va_P (dC, dI) vwCl (w_M cI cJ cZ aM 0 VM1 VM2 VM3 VM4 VM5 WM0 NM0 NM1 NM2 LM0 LM1 LM2 LM3 LM4 LM5 LM6 LM7 LM8 LM9 LM10 LM11 LM12 y131.2.1 y119.2 y131.2.2.1 IM0 IM1 IM2 y131.2.2.2) H := hP
                      have hD : va_D A (w_M cI cJ cZ aM 0 VM1 VM2 VM3 VM4 VM5 WM0 NM0 NM1 NM2 LM0 LM1 LM2 LM3 LM4 LM5 LM6 LM7 LM8 LM9 LM10 LM11 LM12 y131.2.1 y119.2 y131.2.2.1 IM0 IM1 IM2 y131.2.2.2) := hD
                      subst hR
                      exact W.lret (v := y131.1) hx hb hr (fun t ht hW => ⟨⟨_, (), rfl, rfl, by rw [ht]; exact hP, va_K.moved hW.alike hK, hD⟩, hS.F ht⟩) hS.2.2 d_Model_dual_134
                  · replace hR := (if_pos c96).symm.trans hR
                    refine lv_iload_n hx hb d_Model_dual_99 rfl (lv_at hl 3 rfl) ?_
                    refine lv_goto (tgt := 105) hx hb d_Model_dual_100 (by decide) ?_
                    refine lv_iload_n hx hb d_Model_dual_105 rfl (lv_at hl 2 rfl) ?_
                    refine lv_iconst (v := nI 1) hx hb d_Model_dual_106 (by decide) ?_
                    refine lv_icmp_ne (tgt := 114) hx hb d_Model_dual_107 (by decide) (fun c107 => ?_) (fun c107 => ?_)
                    · replace hR := (if_neg c107).symm.trans hR
                      refine lv_bipush (v := (-2)) hx hb d_Model_dual_114 (by decide) ?_
                      refine lv_lconst (v := 1) hx hb d_Model_dual_116 (by decide) ?_
                      refine lv_bipush (v := (-2)) hx hb d_Model_dual_117 (by decide) ?_
                      obtain ⟨y119, hy119, hR⟩ := hw_bind hR
                      have hM := c_Model_lay l dC dI cI cJ cZ H.size aM 0 VM1 VM2 VM3 VM4 VM5 WM0 NM0 NM1 NM2 LM0 LM1 LM2 LM3 LM4 LM5 LM6 LM7 LM8 LM9 LM10 LM11 LM12 LM13 LM14 LM15 IM0 IM1 IM2 IM3 x2 (-2) 1 (-2) (by first | assumption | omega) (by first | assumption | omega) (by first | assumption | omega) (by first | assumption | omega) (by first | assumption | omega) (by first | assumption | omega) (by first | assumption | omega) (by first | assumption | omega) (by first | assumption | omega)
                      rw [hy119] at hM
                      refine hw_callVv (As := [.int x2, .int (-2), .long 1, .int (-2)]) (rest := []) (wr := ([] : va_W)) ⟨hx, hb, hml, hown, hG⟩ hM (hw_cwV 4 hG m_754 m_756 mp_21 m_7 m_757 rfl rfl (by decide +kernel) ⟨Nat.le_of_ble_eq_true rfl, Nat.le_of_ble_eq_true rfl⟩) hK hP hD hS hA [0, 1, 2, 3, 4, 5, 6, 7, 8, 9, 10, 11, 12, 13, 14, 15, 16, 17, 18, 19, 20, 21, 22, 23] [] rfl rfl (by decide) (by decide) (by decide) (hw_recv hK hP 0 rfl rfl) rfl hl.1 rfl (Nat.le_of_ble_eq_true rfl) d_Model_dual_119 ⟨Nat.le_of_ble_eq_true rfl, Nat.le_of_ble_eq_true rfl⟩ (fun H locs hP hD hS => ?_)
                      have hP : va_P (dC, dI) vwCl (w_M cI cJ cZ aM 0 VM1 VM2 VM3 VM4 VM5 WM0 NM0 NM1 NM2 LM0 LM1 LM2 LM3 LM4 LM5 LM6 LM7 LM8 LM9 LM10 LM11 LM12 y119.1 y119.2 LM15 IM0 IM1 IM2 IM3) H := hP
                      have hD : va_D A (w_M cI cJ cZ aM 0 VM1 VM2 VM3 VM4 VM5 WM0 NM0 NM1 NM2 LM0 LM1 LM2 LM3 LM4 LM5 LM6 LM7 LM8 LM9 LM10 LM11 LM12 y119.1 y119.2 LM15 IM0 IM1 IM2 IM3) := hD
                      have hnt := hv_net (VM1 := VM1) (VM2 := VM2) (VM3 := VM3) (VM4 := VM4) (NM0 := NM0) (NM1 := NM1) (NM2 := NM2) (IM0 := IM0) (IM1 := IM1) x2 (-2) 1 (-2) LM13 LM14 hvM mk4 mfw m2 (by omega) ⟨by decide, by decide⟩ (fun _ _ _ => absurd c96 c77)
                      rw [hy119] at hnt
                      refine lv_aload_n hx hb d_Model_dual_122 rfl (lv_at hl 1 rfl) ?_
                      refine lv_aload_n hx hb d_Model_dual_123 rfl (lv_at hl 1 rfl) ?_
                      obtain ⟨y124, hy124, hR⟩ := hw_bind hR
                      have hM := c_Model_wanted l dC dI cI cJ cZ H.size aM 0 VM1 VM2 VM3 VM4 VM5 WM0 NM0 NM1 NM2 LM0 LM1 LM2 LM3 LM4 LM5 LM6 LM7 LM8 LM9 LM10 LM11 LM12 y119.1 y119.2 LM15 IM0 IM1 IM2 IM3 (by first | assumption | omega)
                      rw [hy124] at hM
                      refine hw_callVl (As := []) (rest := [.ref (aM 0)]) (wr := ([] : va_W)) ⟨hx, hb, hml, hown, hG⟩ hM (hw_cwV 0 hG m_790 m_792 mp_29 m_7 m_793 rfl rfl (by decide +kernel) ⟨Nat.le_of_ble_eq_true rfl, Nat.le_of_ble_eq_true rfl⟩) hK hP hD hS hA [0, 1, 2, 3, 4, 5, 6, 7, 8, 9, 10, 11, 12, 13, 14, 15, 16, 17, 18, 19, 20, 21, 22, 23] [] rfl rfl (by decide) (by decide) (by decide) (hw_recv hK hP 0 rfl rfl) rfl hl.1 rfl (Nat.le_of_ble_eq_true rfl) d_Model_dual_124 ⟨Nat.le_of_ble_eq_true rfl, Nat.le_of_ble_eq_true rfl⟩ (fun H locs hP hD hS => ?_)
                      have hP : va_P (dC, dI) vwCl (w_M cI cJ cZ aM 0 VM1 VM2 VM3 VM4 VM5 WM0 NM0 NM1 NM2 LM0 LM1 LM2 LM3 LM4 LM5 LM6 LM7 LM8 LM9 LM10 LM11 LM12 y119.1 y119.2 LM15 IM0 IM1 IM2 IM3) H := hP
                      have hD : va_D A (w_M cI cJ cZ aM 0 VM1 VM2 VM3 VM4 VM5 WM0 NM0 NM1 NM2 LM0 LM1 LM2 LM3 LM4 LM5 LM6 LM7 LM8 LM9 LM10 LM11 LM12 y119.1 y119.2 LM15 IM0 IM1 IM2 IM3) := hD
                      refine lv_iload_n hx hb d_Model_dual_127 rfl (lv_at hl 2 rfl) ?_
                      refine lv_i2l (v := x1.toInt64) hx hb d_Model_dual_128 rfl ?_
                      refine lv_ladd hx hb d_Model_dual_129 ?_
                      refine lv_iload_n hx hb d_Model_dual_130 rfl (lv_at hl 4 rfl) ?_
                      obtain ⟨y131, hy131, hR⟩ := hw_bind hR
                      have hM := c_Model_differs l dC dI cI cJ cZ H.size aM 0 VM1 VM2 VM3 VM4 VM5 WM0 NM0 NM1 NM2 LM0 LM1 LM2 LM3 LM4 LM5 LM6 LM7 LM8 LM9 LM10 LM11 LM12 y119.1 y119.2 LM15 IM0 IM1 IM2 IM3 (y124 + x1.toInt64) x3 (by first | assumption | omega) (by first | assumption | omega) (by first | assumption | omega) (by first | assumption | omega) (by first | assumption | omega) (by first | assumption | omega) (fun _ => 0) hnt.1
                      rw [hy131] at hM
                      refine hw_callVl (As := [.long (y124 + x1.toInt64), .int x3]) (rest := []) (wr := ([] : va_W)) ⟨hx, hb, hml, hown, hG⟩ hM (hw_cwV 2 hG m_820 m_822 mp_33 m_7 m_823 rfl rfl (by decide +kernel) ⟨Nat.le_of_ble_eq_true rfl, Nat.le_of_ble_eq_true rfl⟩) hK hP hD hS hA [0, 1, 2, 3, 4, 5, 6, 7, 8, 9, 10, 11, 12, 13, 14, 15, 16, 17, 18, 19, 20, 21, 22, 23] [] rfl rfl (by decide) (by decide) (by decide) (hw_recv hK hP 0 rfl rfl) rfl hl.1 rfl (Nat.le_of_ble_eq_true rfl) d_Model_dual_131 ⟨Nat.le_of_ble_eq_true rfl, Nat.le_of_ble_eq_true rfl⟩ (fun H locs hP hD hS => ?_)
                      have hP : va_P (dC, dI) vwCl (w_M cI cJ cZ aM 0 VM1 VM2 VM3 VM4 VM5 WM0 NM0 NM1 NM2 LM0 LM1 LM2 LM3 LM4 LM5 LM6 LM7 LM8 LM9 LM10 LM11 LM12 y131.2.1 y119.2 y131.2.2.1 IM0 IM1 IM2 y131.2.2.2) H := hP
                      have hD : va_D A (w_M cI cJ cZ aM 0 VM1 VM2 VM3 VM4 VM5 WM0 NM0 NM1 NM2 LM0 LM1 LM2 LM3 LM4 LM5 LM6 LM7 LM8 LM9 LM10 LM11 LM12 y131.2.1 y119.2 y131.2.2.1 IM0 IM1 IM2 y131.2.2.2) := hD
                      subst hR
                      exact W.lret (v := y131.1) hx hb hr (fun t ht hW => ⟨⟨_, (), rfl, rfl, by rw [ht]; exact hP, va_K.moved hW.alike hK, hD⟩, hS.F ht⟩) hS.2.2 d_Model_dual_134
                    · replace hR := (if_pos c107).symm.trans hR
                      refine lv_iload_n hx hb d_Model_dual_110 rfl (lv_at hl 3 rfl) ?_
                      refine lv_goto (tgt := 116) hx hb d_Model_dual_111 (by decide) ?_
                      refine lv_lconst (v := 1) hx hb d_Model_dual_116 (by decide) ?_
                      refine lv_bipush (v := (-2)) hx hb d_Model_dual_117 (by decide) ?_
                      obtain ⟨y119, hy119, hR⟩ := hw_bind hR
                      have hM := c_Model_lay l dC dI cI cJ cZ H.size aM 0 VM1 VM2 VM3 VM4 VM5 WM0 NM0 NM1 NM2 LM0 LM1 LM2 LM3 LM4 LM5 LM6 LM7 LM8 LM9 LM10 LM11 LM12 LM13 LM14 LM15 IM0 IM1 IM2 IM3 x2 x2 1 (-2) (by first | assumption | omega) (by first | assumption | omega) (by first | assumption | omega) (by first | assumption | omega) (by first | assumption | omega) (by first | assumption | omega) (by first | assumption | omega) (by first | assumption | omega) (by first | assumption | omega)
                      rw [hy119] at hM
                      refine hw_callVv (As := [.int x2, .int x2, .long 1, .int (-2)]) (rest := []) (wr := ([] : va_W)) ⟨hx, hb, hml, hown, hG⟩ hM (hw_cwV 4 hG m_754 m_756 mp_21 m_7 m_757 rfl rfl (by decide +kernel) ⟨Nat.le_of_ble_eq_true rfl, Nat.le_of_ble_eq_true rfl⟩) hK hP hD hS hA [0, 1, 2, 3, 4, 5, 6, 7, 8, 9, 10, 11, 12, 13, 14, 15, 16, 17, 18, 19, 20, 21, 22, 23] [] rfl rfl (by decide) (by decide) (by decide) (hw_recv hK hP 0 rfl rfl) rfl hl.1 rfl (Nat.le_of_ble_eq_true rfl) d_Model_dual_119 ⟨Nat.le_of_ble_eq_true rfl, Nat.le_of_ble_eq_true rfl⟩ (fun H locs hP hD hS => ?_)
                      have hP : va_P (dC, dI) vwCl (w_M cI cJ cZ aM 0 VM1 VM2 VM3 VM4 VM5 WM0 NM0 NM1 NM2 LM0 LM1 LM2 LM3 LM4 LM5 LM6 LM7 LM8 LM9 LM10 LM11 LM12 y119.1 y119.2 LM15 IM0 IM1 IM2 IM3) H := hP
                      have hD : va_D A (w_M cI cJ cZ aM 0 VM1 VM2 VM3 VM4 VM5 WM0 NM0 NM1 NM2 LM0 LM1 LM2 LM3 LM4 LM5 LM6 LM7 LM8 LM9 LM10 LM11 LM12 y119.1 y119.2 LM15 IM0 IM1 IM2 IM3) := hD
                      have hnt := hv_net (VM1 := VM1) (VM2 := VM2) (VM3 := VM3) (VM4 := VM4) (NM0 := NM0) (NM1 := NM1) (NM2 := NM2) (IM0 := IM0) (IM1 := IM1) x2 x2 1 (-2) LM13 LM14 hvM mk4 mfw m2 (by omega) ⟨by decide, by decide⟩ (fun _ _ _ => absurd c96 c77)
                      rw [hy119] at hnt
                      refine lv_aload_n hx hb d_Model_dual_122 rfl (lv_at hl 1 rfl) ?_
                      refine lv_aload_n hx hb d_Model_dual_123 rfl (lv_at hl 1 rfl) ?_
                      obtain ⟨y124, hy124, hR⟩ := hw_bind hR
                      have hM := c_Model_wanted l dC dI cI cJ cZ H.size aM 0 VM1 VM2 VM3 VM4 VM5 WM0 NM0 NM1 NM2 LM0 LM1 LM2 LM3 LM4 LM5 LM6 LM7 LM8 LM9 LM10 LM11 LM12 y119.1 y119.2 LM15 IM0 IM1 IM2 IM3 (by first | assumption | omega)
                      rw [hy124] at hM
                      refine hw_callVl (As := []) (rest := [.ref (aM 0)]) (wr := ([] : va_W)) ⟨hx, hb, hml, hown, hG⟩ hM (hw_cwV 0 hG m_790 m_792 mp_29 m_7 m_793 rfl rfl (by decide +kernel) ⟨Nat.le_of_ble_eq_true rfl, Nat.le_of_ble_eq_true rfl⟩) hK hP hD hS hA [0, 1, 2, 3, 4, 5, 6, 7, 8, 9, 10, 11, 12, 13, 14, 15, 16, 17, 18, 19, 20, 21, 22, 23] [] rfl rfl (by decide) (by decide) (by decide) (hw_recv hK hP 0 rfl rfl) rfl hl.1 rfl (Nat.le_of_ble_eq_true rfl) d_Model_dual_124 ⟨Nat.le_of_ble_eq_true rfl, Nat.le_of_ble_eq_true rfl⟩ (fun H locs hP hD hS => ?_)
                      have hP : va_P (dC, dI) vwCl (w_M cI cJ cZ aM 0 VM1 VM2 VM3 VM4 VM5 WM0 NM0 NM1 NM2 LM0 LM1 LM2 LM3 LM4 LM5 LM6 LM7 LM8 LM9 LM10 LM11 LM12 y119.1 y119.2 LM15 IM0 IM1 IM2 IM3) H := hP
                      have hD : va_D A (w_M cI cJ cZ aM 0 VM1 VM2 VM3 VM4 VM5 WM0 NM0 NM1 NM2 LM0 LM1 LM2 LM3 LM4 LM5 LM6 LM7 LM8 LM9 LM10 LM11 LM12 y119.1 y119.2 LM15 IM0 IM1 IM2 IM3) := hD
                      refine lv_iload_n hx hb d_Model_dual_127 rfl (lv_at hl 2 rfl) ?_
                      refine lv_i2l (v := x1.toInt64) hx hb d_Model_dual_128 rfl ?_
                      refine lv_ladd hx hb d_Model_dual_129 ?_
                      refine lv_iload_n hx hb d_Model_dual_130 rfl (lv_at hl 4 rfl) ?_
                      obtain ⟨y131, hy131, hR⟩ := hw_bind hR
                      have hM := c_Model_differs l dC dI cI cJ cZ H.size aM 0 VM1 VM2 VM3 VM4 VM5 WM0 NM0 NM1 NM2 LM0 LM1 LM2 LM3 LM4 LM5 LM6 LM7 LM8 LM9 LM10 LM11 LM12 y119.1 y119.2 LM15 IM0 IM1 IM2 IM3 (y124 + x1.toInt64) x3 (by first | assumption | omega) (by first | assumption | omega) (by first | assumption | omega) (by first | assumption | omega) (by first | assumption | omega) (by first | assumption | omega) (fun _ => 0) hnt.1
                      rw [hy131] at hM
                      refine hw_callVl (As := [.long (y124 + x1.toInt64), .int x3]) (rest := []) (wr := ([] : va_W)) ⟨hx, hb, hml, hown, hG⟩ hM (hw_cwV 2 hG m_820 m_822 mp_33 m_7 m_823 rfl rfl (by decide +kernel) ⟨Nat.le_of_ble_eq_true rfl, Nat.le_of_ble_eq_true rfl⟩) hK hP hD hS hA [0, 1, 2, 3, 4, 5, 6, 7, 8, 9, 10, 11, 12, 13, 14, 15, 16, 17, 18, 19, 20, 21, 22, 23] [] rfl rfl (by decide) (by decide) (by decide) (hw_recv hK hP 0 rfl rfl) rfl hl.1 rfl (Nat.le_of_ble_eq_true rfl) d_Model_dual_131 ⟨Nat.le_of_ble_eq_true rfl, Nat.le_of_ble_eq_true rfl⟩ (fun H locs hP hD hS => ?_)
                      have hP : va_P (dC, dI) vwCl (w_M cI cJ cZ aM 0 VM1 VM2 VM3 VM4 VM5 WM0 NM0 NM1 NM2 LM0 LM1 LM2 LM3 LM4 LM5 LM6 LM7 LM8 LM9 LM10 LM11 LM12 y131.2.1 y119.2 y131.2.2.1 IM0 IM1 IM2 y131.2.2.2) H := hP
                      have hD : va_D A (w_M cI cJ cZ aM 0 VM1 VM2 VM3 VM4 VM5 WM0 NM0 NM1 NM2 LM0 LM1 LM2 LM3 LM4 LM5 LM6 LM7 LM8 LM9 LM10 LM11 LM12 y131.2.1 y119.2 y131.2.2.1 IM0 IM1 IM2 y131.2.2.2) := hD
                      subst hR
                      exact W.lret (v := y131.1) hx hb hr (fun t ht hW => ⟨⟨_, (), rfl, rfl, by rw [ht]; exact hP, va_K.moved hW.alike hK, hD⟩, hS.F ht⟩) hS.2.2 d_Model_dual_134
                · replace hR := (if_pos c77).symm.trans hR
                  exact absurd (c45.symm.trans c77) (by decide)
