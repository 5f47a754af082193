abbrev b_Model_thrown : ByteArray := prog_7_method_2_code
def y_Model_thrown : MethodName := ⟨R_Model, "thrown", "()I"⟩
def u_Model_thrown : List Cond := Cond.code y_Model_thrown b_Model_thrown 1 (some .int) :: wG
theorem d_Model_thrown_0 : decode b_Model_thrown 0 = .ok (.aload_n 0, 1) := by decide +kernel
theorem d_Model_thrown_1 : decode b_Model_thrown 1 = .ok (.getfield 83, 3) := by decide +kernel
theorem d_Model_thrown_4 : decode b_Model_thrown 4 = .ok (.ireturn, 1) := by decide +kernel
abbrev b_Model_cut : ByteArray := prog_7_method_4_code
def y_Model_cut : MethodName := ⟨R_Model, "cut", "(JIIJ)I"⟩
def u_Model_cut : List Cond := Cond.code y_Model_cut b_Model_cut 7 (some .int) :: wG
theorem d_Model_cut_0 : decode b_Model_cut 0 = .ok (.aload_n 0, 1) := by decide +kernel
theorem d_Model_cut_1 : decode b_Model_cut 1 = .ok (.iconst 0, 1) := by decide +kernel
theorem d_Model_cut_2 : decode b_Model_cut 2 = .ok (.putfield 83, 3) := by decide +kernel
theorem d_Model_cut_5 : decode b_Model_cut 5 = .ok (.lload_n 1, 1) := by decide +kernel
theorem d_Model_cut_6 : decode b_Model_cut 6 = .ok (.lconst 1, 1) := by decide +kernel
theorem d_Model_cut_7 : decode b_Model_cut 7 = .ok (.ldc2_w 87, 3) := by decide +kernel
theorem d_Model_cut_10 : decode b_Model_cut 10 = .ok (.invokestatic 89, 3) := by decide +kernel
theorem d_Model_cut_13 : decode b_Model_cut 13 = .ok (.ifCond .eq 49, 3) := by decide +kernel
theorem d_Model_cut_16 : decode b_Model_cut 16 = .ok (.iload_n 3, 1) := by decide +kernel
theorem d_Model_cut_17 : decode b_Model_cut 17 = .ok (.i2l, 1) := by decide +kernel
theorem d_Model_cut_18 : decode b_Model_cut 18 = .ok (.lconst 0, 1) := by decide +kernel
theorem d_Model_cut_19 : decode b_Model_cut 19 = .ok (.ldc2_w 93, 3) := by decide +kernel
theorem d_Model_cut_22 : decode b_Model_cut 22 = .ok (.invokestatic 89, 3) := by decide +kernel
theorem d_Model_cut_25 : decode b_Model_cut 25 = .ok (.ifCond .eq 37, 3) := by decide +kernel
theorem d_Model_cut_28 : decode b_Model_cut 28 = .ok (.iload 4, 2) := by decide +kernel
theorem d_Model_cut_30 : decode b_Model_cut 30 = .ok (.i2l, 1) := by decide +kernel
theorem d_Model_cut_31 : decode b_Model_cut 31 = .ok (.lconst 0, 1) := by decide +kernel
theorem d_Model_cut_32 : decode b_Model_cut 32 = .ok (.ldc2_w 95, 3) := by decide +kernel
theorem d_Model_cut_35 : decode b_Model_cut 35 = .ok (.invokestatic 89, 3) := by decide +kernel
theorem d_Model_cut_38 : decode b_Model_cut 38 = .ok (.ifCond .eq 24, 3) := by decide +kernel
theorem d_Model_cut_41 : decode b_Model_cut 41 = .ok (.lload 5, 2) := by decide +kernel
theorem d_Model_cut_43 : decode b_Model_cut 43 = .ok (.lconst 0, 1) := by decide +kernel
theorem d_Model_cut_44 : decode b_Model_cut 44 = .ok (.ldc2_w 97, 3) := by decide +kernel
theorem d_Model_cut_47 : decode b_Model_cut 47 = .ok (.invokestatic 89, 3) := by decide +kernel
theorem d_Model_cut_50 : decode b_Model_cut 50 = .ok (.ifCond .eq 12, 3) := by decide +kernel
theorem d_Model_cut_53 : decode b_Model_cut 53 = .ok (.aload_n 0, 1) := by decide +kernel
theorem d_Model_cut_54 : decode b_Model_cut 54 = .ok (.getfield 99, 3) := by decide +kernel
theorem d_Model_cut_57 : decode b_Model_cut 57 = .ok (.bipush 8, 2) := by decide +kernel
theorem d_Model_cut_59 : decode b_Model_cut 59 = .ok (.if_icmp .ne 5, 3) := by decide +kernel
theorem d_Model_cut_62 : decode b_Model_cut 62 = .ok (.iconst (-1), 1) := by decide +kernel
theorem d_Model_cut_63 : decode b_Model_cut 63 = .ok (.ireturn, 1) := by decide +kernel
theorem d_Model_cut_64 : decode b_Model_cut 64 = .ok (.aload_n 0, 1) := by decide +kernel
theorem d_Model_cut_65 : decode b_Model_cut 65 = .ok (.getfield 7, 3) := by decide +kernel
theorem d_Model_cut_68 : decode b_Model_cut 68 = .ok (.aload_n 0, 1) := by decide +kernel
theorem d_Model_cut_69 : decode b_Model_cut 69 = .ok (.getfield 99, 3) := by decide +kernel
theorem d_Model_cut_72 : decode b_Model_cut 72 = .ok (.lload_n 1, 1) := by decide +kernel
theorem d_Model_cut_73 : decode b_Model_cut 73 = .ok (.lastore, 1) := by decide +kernel
theorem d_Model_cut_74 : decode b_Model_cut 74 = .ok (.aload_n 0, 1) := by decide +kernel
theorem d_Model_cut_75 : decode b_Model_cut 75 = .ok (.getfield 13, 3) := by decide +kernel
theorem d_Model_cut_78 : decode b_Model_cut 78 = .ok (.aload_n 0, 1) := by decide +kernel
theorem d_Model_cut_79 : decode b_Model_cut 79 = .ok (.getfield 99, 3) := by decide +kernel
theorem d_Model_cut_82 : decode b_Model_cut 82 = .ok (.iload_n 3, 1) := by decide +kernel
theorem d_Model_cut_83 : decode b_Model_cut 83 = .ok (.iastore, 1) := by decide +kernel
theorem d_Model_cut_84 : decode b_Model_cut 84 = .ok (.aload_n 0, 1) := by decide +kernel
theorem d_Model_cut_85 : decode b_Model_cut 85 = .ok (.getfield 17, 3) := by decide +kernel
theorem d_Model_cut_88 : decode b_Model_cut 88 = .ok (.aload_n 0, 1) := by decide +kernel
theorem d_Model_cut_89 : decode b_Model_cut 89 = .ok (.getfield 99, 3) := by decide +kernel
theorem d_Model_cut_92 : decode b_Model_cut 92 = .ok (.iload 4, 2) := by decide +kernel
theorem d_Model_cut_94 : decode b_Model_cut 94 = .ok (.iastore, 1) := by decide +kernel
theorem d_Model_cut_95 : decode b_Model_cut 95 = .ok (.aload_n 0, 1) := by decide +kernel
theorem d_Model_cut_96 : decode b_Model_cut 96 = .ok (.getfield 20, 3) := by decide +kernel
theorem d_Model_cut_99 : decode b_Model_cut 99 = .ok (.aload_n 0, 1) := by decide +kernel
theorem d_Model_cut_100 : decode b_Model_cut 100 = .ok (.getfield 99, 3) := by decide +kernel
theorem d_Model_cut_103 : decode b_Model_cut 103 = .ok (.lload 5, 2) := by decide +kernel
theorem d_Model_cut_105 : decode b_Model_cut 105 = .ok (.lastore, 1) := by decide +kernel
theorem d_Model_cut_106 : decode b_Model_cut 106 = .ok (.aload_n 0, 1) := by decide +kernel
theorem d_Model_cut_107 : decode b_Model_cut 107 = .ok (.dup, 1) := by decide +kernel
theorem d_Model_cut_108 : decode b_Model_cut 108 = .ok (.getfield 99, 3) := by decide +kernel
theorem d_Model_cut_111 : decode b_Model_cut 111 = .ok (.iconst 1, 1) := by decide +kernel
theorem d_Model_cut_112 : decode b_Model_cut 112 = .ok (.iadd, 1) := by decide +kernel
theorem d_Model_cut_113 : decode b_Model_cut 113 = .ok (.putfield 99, 3) := by decide +kernel
theorem d_Model_cut_116 : decode b_Model_cut 116 = .ok (.aload_n 0, 1) := by decide +kernel
theorem d_Model_cut_117 : decode b_Model_cut 117 = .ok (.iconst 0, 1) := by decide +kernel
theorem d_Model_cut_118 : decode b_Model_cut 118 = .ok (.putfield 102, 3) := by decide +kernel
theorem d_Model_cut_121 : decode b_Model_cut 121 = .ok (.aload_n 0, 1) := by decide +kernel
theorem d_Model_cut_122 : decode b_Model_cut 122 = .ok (.getfield 99, 3) := by decide +kernel
theorem d_Model_cut_125 : decode b_Model_cut 125 = .ok (.iconst 1, 1) := by decide +kernel
theorem d_Model_cut_126 : decode b_Model_cut 126 = .ok (.isub, 1) := by decide +kernel
theorem d_Model_cut_127 : decode b_Model_cut 127 = .ok (.ireturn, 1) := by decide +kernel
abbrev b_Model_fill : ByteArray := prog_7_method_5_code
def y_Model_fill : MethodName := ⟨R_Model, "fill", "(JIJ)I"⟩
def u_Model_fill : List Cond := Cond.code y_Model_fill b_Model_fill 6 (some .int) :: wG
theorem d_Model_fill_0 : decode b_Model_fill 0 = .ok (.aload_n 0, 1) := by decide +kernel
theorem d_Model_fill_1 : decode b_Model_fill 1 = .ok (.iconst 0, 1) := by decide +kernel
theorem d_Model_fill_2 : decode b_Model_fill 2 = .ok (.putfield 83, 3) := by decide +kernel
theorem d_Model_fill_5 : decode b_Model_fill 5 = .ok (.lload_n 1, 1) := by decide +kernel
theorem d_Model_fill_6 : decode b_Model_fill 6 = .ok (.lconst 1, 1) := by decide +kernel
theorem d_Model_fill_7 : decode b_Model_fill 7 = .ok (.ldc2_w 87, 3) := by decide +kernel
theorem d_Model_fill_10 : decode b_Model_fill 10 = .ok (.invokestatic 89, 3) := by decide +kernel
theorem d_Model_fill_13 : decode b_Model_fill 13 = .ok (.ifCond .eq 36, 3) := by decide +kernel
theorem d_Model_fill_16 : decode b_Model_fill 16 = .ok (.iload_n 3, 1) := by decide +kernel
theorem d_Model_fill_17 : decode b_Model_fill 17 = .ok (.i2l, 1) := by decide +kernel
theorem d_Model_fill_18 : decode b_Model_fill 18 = .ok (.lconst 0, 1) := by decide +kernel
theorem d_Model_fill_19 : decode b_Model_fill 19 = .ok (.ldc2_w 95, 3) := by decide +kernel
theorem d_Model_fill_22 : decode b_Model_fill 22 = .ok (.invokestatic 89, 3) := by decide +kernel
theorem d_Model_fill_25 : decode b_Model_fill 25 = .ok (.ifCond .eq 24, 3) := by decide +kernel
theorem d_Model_fill_28 : decode b_Model_fill 28 = .ok (.lload 4, 2) := by decide +kernel
theorem d_Model_fill_30 : decode b_Model_fill 30 = .ok (.lconst 0, 1) := by decide +kernel
theorem d_Model_fill_31 : decode b_Model_fill 31 = .ok (.ldc2_w 97, 3) := by decide +kernel
theorem d_Model_fill_34 : decode b_Model_fill 34 = .ok (.invokestatic 89, 3) := by decide +kernel
theorem d_Model_fill_37 : decode b_Model_fill 37 = .ok (.ifCond .eq 12, 3) := by decide +kernel
theorem d_Model_fill_40 : decode b_Model_fill 40 = .ok (.aload_n 0, 1) := by decide +kernel
theorem d_Model_fill_41 : decode b_Model_fill 41 = .ok (.getfield 105, 3) := by decide +kernel
theorem d_Model_fill_44 : decode b_Model_fill 44 = .ok (.bipush 8, 2) := by decide +kernel
theorem d_Model_fill_46 : decode b_Model_fill 46 = .ok (.if_icmp .ne 5, 3) := by decide +kernel
theorem d_Model_fill_49 : decode b_Model_fill 49 = .ok (.iconst (-1), 1) := by decide +kernel
theorem d_Model_fill_50 : decode b_Model_fill 50 = .ok (.ireturn, 1) := by decide +kernel
theorem d_Model_fill_51 : decode b_Model_fill 51 = .ok (.aload_n 0, 1) := by decide +kernel
theorem d_Model_fill_52 : decode b_Model_fill 52 = .ok (.getfield 23, 3) := by decide +kernel
theorem d_Model_fill_55 : decode b_Model_fill 55 = .ok (.aload_n 0, 1) := by decide +kernel
theorem d_Model_fill_56 : decode b_Model_fill 56 = .ok (.getfield 105, 3) := by decide +kernel
theorem d_Model_fill_59 : decode b_Model_fill 59 = .ok (.lload_n 1, 1) := by decide +kernel
theorem d_Model_fill_60 : decode b_Model_fill 60 = .ok (.lastore, 1) := by decide +kernel
theorem d_Model_fill_61 : decode b_Model_fill 61 = .ok (.aload_n 0, 1) := by decide +kernel
theorem d_Model_fill_62 : decode b_Model_fill 62 = .ok (.getfield 26, 3) := by decide +kernel
theorem d_Model_fill_65 : decode b_Model_fill 65 = .ok (.aload_n 0, 1) := by decide +kernel
theorem d_Model_fill_66 : decode b_Model_fill 66 = .ok (.getfield 105, 3) := by decide +kernel
theorem d_Model_fill_69 : decode b_Model_fill 69 = .ok (.iload_n 3, 1) := by decide +kernel
theorem d_Model_fill_70 : decode b_Model_fill 70 = .ok (.iastore, 1) := by decide +kernel
theorem d_Model_fill_71 : decode b_Model_fill 71 = .ok (.aload_n 0, 1) := by decide +kernel
theorem d_Model_fill_72 : decode b_Model_fill 72 = .ok (.getfield 29, 3) := by decide +kernel
theorem d_Model_fill_75 : decode b_Model_fill 75 = .ok (.aload_n 0, 1) := by decide +kernel
theorem d_Model_fill_76 : decode b_Model_fill 76 = .ok (.getfield 105, 3) := by decide +kernel
theorem d_Model_fill_79 : decode b_Model_fill 79 = .ok (.lload 4, 2) := by decide +kernel
theorem d_Model_fill_81 : decode b_Model_fill 81 = .ok (.lastore, 1) := by decide +kernel
theorem d_Model_fill_82 : decode b_Model_fill 82 = .ok (.aload_n 0, 1) := by decide +kernel
theorem d_Model_fill_83 : decode b_Model_fill 83 = .ok (.dup, 1) := by decide +kernel
theorem d_Model_fill_84 : decode b_Model_fill 84 = .ok (.getfield 105, 3) := by decide +kernel
theorem d_Model_fill_87 : decode b_Model_fill 87 = .ok (.iconst 1, 1) := by decide +kernel
theorem d_Model_fill_88 : decode b_Model_fill 88 = .ok (.iadd, 1) := by decide +kernel
theorem d_Model_fill_89 : decode b_Model_fill 89 = .ok (.putfield 105, 3) := by decide +kernel
theorem d_Model_fill_92 : decode b_Model_fill 92 = .ok (.aload_n 0, 1) := by decide +kernel
theorem d_Model_fill_93 : decode b_Model_fill 93 = .ok (.iconst 0, 1) := by decide +kernel
theorem d_Model_fill_94 : decode b_Model_fill 94 = .ok (.putfield 102, 3) := by decide +kernel
theorem d_Model_fill_97 : decode b_Model_fill 97 = .ok (.aload_n 0, 1) := by decide +kernel
theorem d_Model_fill_98 : decode b_Model_fill 98 = .ok (.getfield 105, 3) := by decide +kernel
theorem d_Model_fill_101 : decode b_Model_fill 101 = .ok (.iconst 1, 1) := by decide +kernel
theorem d_Model_fill_102 : decode b_Model_fill 102 = .ok (.isub, 1) := by decide +kernel
theorem d_Model_fill_103 : decode b_Model_fill 103 = .ok (.ireturn, 1) := by decide +kernel
abbrev b_Model_swell : ByteArray := prog_7_method_6_code
def y_Model_swell : MethodName := ⟨R_Model, "swell", "(IJJ)Z"⟩
def u_Model_swell : List Cond := Cond.code y_Model_swell b_Model_swell 6 (some .boolean) :: wG
theorem d_Model_swell_0 : decode b_Model_swell 0 = .ok (.aload_n 0, 1) := by decide +kernel
theorem d_Model_swell_1 : decode b_Model_swell 1 = .ok (.iconst 0, 1) := by decide +kernel
theorem d_Model_swell_2 : decode b_Model_swell 2 = .ok (.putfield 83, 3) := by decide +kernel
theorem d_Model_swell_5 : decode b_Model_swell 5 = .ok (.iload_n 1, 1) := by decide +kernel
theorem d_Model_swell_6 : decode b_Model_swell 6 = .ok (.i2l, 1) := by decide +kernel
theorem d_Model_swell_7 : decode b_Model_swell 7 = .ok (.lconst 0, 1) := by decide +kernel
theorem d_Model_swell_8 : decode b_Model_swell 8 = .ok (.ldc2_w 93, 3) := by decide +kernel
theorem d_Model_swell_11 : decode b_Model_swell 11 = .ok (.invokestatic 89, 3) := by decide +kernel
theorem d_Model_swell_14 : decode b_Model_swell 14 = .ok (.ifCond .eq 26, 3) := by decide +kernel
theorem d_Model_swell_17 : decode b_Model_swell 17 = .ok (.lload_n 2, 1) := by decide +kernel
theorem d_Model_swell_18 : decode b_Model_swell 18 = .ok (.lconst 1, 1) := by decide +kernel
theorem d_Model_swell_19 : decode b_Model_swell 19 = .ok (.ldc2_w 108, 3) := by decide +kernel
theorem d_Model_swell_22 : decode b_Model_swell 22 = .ok (.invokestatic 89, 3) := by decide +kernel
theorem d_Model_swell_25 : decode b_Model_swell 25 = .ok (.ifCond .eq 15, 3) := by decide +kernel
theorem d_Model_swell_28 : decode b_Model_swell 28 = .ok (.lload 4, 2) := by decide +kernel
theorem d_Model_swell_30 : decode b_Model_swell 30 = .ok (.lconst 1, 1) := by decide +kernel
theorem d_Model_swell_31 : decode b_Model_swell 31 = .ok (.ldc2_w 108, 3) := by decide +kernel
theorem d_Model_swell_34 : decode b_Model_swell 34 = .ok (.invokestatic 89, 3) := by decide +kernel
theorem d_Model_swell_37 : decode b_Model_swell 37 = .ok (.ifCond .ne 5, 3) := by decide +kernel
theorem d_Model_swell_40 : decode b_Model_swell 40 = .ok (.iconst 0, 1) := by decide +kernel
theorem d_Model_swell_41 : decode b_Model_swell 41 = .ok (.ireturn, 1) := by decide +kernel
theorem d_Model_swell_42 : decode b_Model_swell 42 = .ok (.aload_n 0, 1) := by decide +kernel
theorem d_Model_swell_43 : decode b_Model_swell 43 = .ok (.getfield 36, 3) := by decide +kernel
theorem d_Model_swell_46 : decode b_Model_swell 46 = .ok (.iload_n 1, 1) := by decide +kernel
theorem d_Model_swell_47 : decode b_Model_swell 47 = .ok (.lload_n 2, 1) := by decide +kernel
theorem d_Model_swell_48 : decode b_Model_swell 48 = .ok (.lastore, 1) := by decide +kernel
theorem d_Model_swell_49 : decode b_Model_swell 49 = .ok (.aload_n 0, 1) := by decide +kernel
theorem d_Model_swell_50 : decode b_Model_swell 50 = .ok (.getfield 39, 3) := by decide +kernel
theorem d_Model_swell_53 : decode b_Model_swell 53 = .ok (.iload_n 1, 1) := by decide +kernel
theorem d_Model_swell_54 : decode b_Model_swell 54 = .ok (.lload 4, 2) := by decide +kernel
theorem d_Model_swell_56 : decode b_Model_swell 56 = .ok (.lastore, 1) := by decide +kernel
theorem d_Model_swell_57 : decode b_Model_swell 57 = .ok (.aload_n 0, 1) := by decide +kernel
theorem d_Model_swell_58 : decode b_Model_swell 58 = .ok (.iconst 0, 1) := by decide +kernel
theorem d_Model_swell_59 : decode b_Model_swell 59 = .ok (.putfield 102, 3) := by decide +kernel
theorem d_Model_swell_62 : decode b_Model_swell 62 = .ok (.iconst 1, 1) := by decide +kernel
theorem d_Model_swell_63 : decode b_Model_swell 63 = .ok (.ireturn, 1) := by decide +kernel
abbrev b_Model_fits : ByteArray := prog_7_method_7_code
def y_Model_fits : MethodName := ⟨R_Model, "fits", "(IIZ)Z"⟩
def u_Model_fits : List Cond := Cond.code y_Model_fits b_Model_fits 4 (some .boolean) :: wG
theorem d_Model_fits_0 : decode b_Model_fits 0 = .ok (.aload_n 0, 1) := by decide +kernel
theorem d_Model_fits_1 : decode b_Model_fits 1 = .ok (.iconst 0, 1) := by decide +kernel
theorem d_Model_fits_2 : decode b_Model_fits 2 = .ok (.putfield 83, 3) := by decide +kernel
theorem d_Model_fits_5 : decode b_Model_fits 5 = .ok (.iload_n 1, 1) := by decide +kernel
theorem d_Model_fits_6 : decode b_Model_fits 6 = .ok (.i2l, 1) := by decide +kernel
theorem d_Model_fits_7 : decode b_Model_fits 7 = .ok (.lconst 0, 1) := by decide +kernel
theorem d_Model_fits_8 : decode b_Model_fits 8 = .ok (.ldc2_w 93, 3) := by decide +kernel
theorem d_Model_fits_11 : decode b_Model_fits 11 = .ok (.invokestatic 89, 3) := by decide +kernel
theorem d_Model_fits_14 : decode b_Model_fits 14 = .ok (.ifCond .eq 19, 3) := by decide +kernel
theorem d_Model_fits_17 : decode b_Model_fits 17 = .ok (.iload_n 2, 1) := by decide +kernel
theorem d_Model_fits_18 : decode b_Model_fits 18 = .ok (.i2l, 1) := by decide +kernel
theorem d_Model_fits_19 : decode b_Model_fits 19 = .ok (.lconst 0, 1) := by decide +kernel
theorem d_Model_fits_20 : decode b_Model_fits 20 = .ok (.aload_n 0, 1) := by decide +kernel
theorem d_Model_fits_21 : decode b_Model_fits 21 = .ok (.getfield 105, 3) := by decide +kernel
theorem d_Model_fits_24 : decode b_Model_fits 24 = .ok (.i2l, 1) := by decide +kernel
theorem d_Model_fits_25 : decode b_Model_fits 25 = .ok (.lconst 1, 1) := by decide +kernel
theorem d_Model_fits_26 : decode b_Model_fits 26 = .ok (.lsub, 1) := by decide +kernel
theorem d_Model_fits_27 : decode b_Model_fits 27 = .ok (.invokestatic 89, 3) := by decide +kernel
theorem d_Model_fits_30 : decode b_Model_fits 30 = .ok (.ifCond .ne 5, 3) := by decide +kernel
theorem d_Model_fits_33 : decode b_Model_fits 33 = .ok (.iconst 0, 1) := by decide +kernel
theorem d_Model_fits_34 : decode b_Model_fits 34 = .ok (.ireturn, 1) := by decide +kernel
theorem d_Model_fits_35 : decode b_Model_fits 35 = .ok (.aload_n 0, 1) := by decide +kernel
theorem d_Model_fits_36 : decode b_Model_fits 36 = .ok (.getfield 32, 3) := by decide +kernel
theorem d_Model_fits_39 : decode b_Model_fits 39 = .ok (.bipush 8, 2) := by decide +kernel
theorem d_Model_fits_41 : decode b_Model_fits 41 = .ok (.iload_n 1, 1) := by decide +kernel
theorem d_Model_fits_42 : decode b_Model_fits 42 = .ok (.imul, 1) := by decide +kernel
theorem d_Model_fits_43 : decode b_Model_fits 43 = .ok (.iload_n 2, 1) := by decide +kernel
theorem d_Model_fits_44 : decode b_Model_fits 44 = .ok (.iadd, 1) := by decide +kernel
theorem d_Model_fits_45 : decode b_Model_fits 45 = .ok (.iload_n 3, 1) := by decide +kernel
theorem d_Model_fits_46 : decode b_Model_fits 46 = .ok (.ifCond .ne 7, 3) := by decide +kernel
theorem d_Model_fits_49 : decode b_Model_fits 49 = .ok (.iconst 1, 1) := by decide +kernel
theorem d_Model_fits_50 : decode b_Model_fits 50 = .ok (.goto 4, 3) := by decide +kernel
theorem d_Model_fits_53 : decode b_Model_fits 53 = .ok (.iconst 0, 1) := by decide +kernel
theorem d_Model_fits_54 : decode b_Model_fits 54 = .ok (.bastore, 1) := by decide +kernel
theorem d_Model_fits_55 : decode b_Model_fits 55 = .ok (.aload_n 0, 1) := by decide +kernel
theorem d_Model_fits_56 : decode b_Model_fits 56 = .ok (.iconst 0, 1) := by decide +kernel
theorem d_Model_fits_57 : decode b_Model_fits 57 = .ok (.putfield 102, 3) := by decide +kernel
theorem d_Model_fits_60 : decode b_Model_fits 60 = .ok (.iconst 1, 1) := by decide +kernel
theorem d_Model_fits_61 : decode b_Model_fits 61 = .ok (.ireturn, 1) := by decide +kernel
abbrev b_Model_way : ByteArray := prog_7_method_8_code
def y_Model_way : MethodName := ⟨R_Model, "way", "(JJJ)I"⟩
def u_Model_way : List Cond := Cond.code y_Model_way b_Model_way 7 (some .int) :: wG
theorem d_Model_way_0 : decode b_Model_way 0 = .ok (.aload_n 0, 1) := by decide +kernel
theorem d_Model_way_1 : decode b_Model_way 1 = .ok (.iconst 0, 1) := by decide +kernel
theorem d_Model_way_2 : decode b_Model_way 2 = .ok (.putfield 83, 3) := by decide +kernel
theorem d_Model_way_5 : decode b_Model_way 5 = .ok (.lload_n 1, 1) := by decide +kernel
theorem d_Model_way_6 : decode b_Model_way 6 = .ok (.lconst 0, 1) := by decide +kernel
theorem d_Model_way_7 : decode b_Model_way 7 = .ok (.ldc2_w 97, 3) := by decide +kernel
theorem d_Model_way_10 : decode b_Model_way 10 = .ok (.invokestatic 89, 3) := by decide +kernel
theorem d_Model_way_13 : decode b_Model_way 13 = .ok (.ifCond .eq 35, 3) := by decide +kernel
theorem d_Model_way_16 : decode b_Model_way 16 = .ok (.lload_n 3, 1) := by decide +kernel
theorem d_Model_way_17 : decode b_Model_way 17 = .ok (.lconst 0, 1) := by decide +kernel
theorem d_Model_way_18 : decode b_Model_way 18 = .ok (.ldc2_w 97, 3) := by decide +kernel
theorem d_Model_way_21 : decode b_Model_way 21 = .ok (.invokestatic 89, 3) := by decide +kernel
theorem d_Model_way_24 : decode b_Model_way 24 = .ok (.ifCond .eq 24, 3) := by decide +kernel
theorem d_Model_way_27 : decode b_Model_way 27 = .ok (.lload 5, 2) := by decide +kernel
theorem d_Model_way_29 : decode b_Model_way 29 = .ok (.lconst 0, 1) := by decide +kernel
theorem d_Model_way_30 : decode b_Model_way 30 = .ok (.ldc2_w 97, 3) := by decide +kernel
theorem d_Model_way_33 : decode b_Model_way 33 = .ok (.invokestatic 89, 3) := by decide +kernel
theorem d_Model_way_36 : decode b_Model_way 36 = .ok (.ifCond .eq 12, 3) := by decide +kernel
theorem d_Model_way_39 : decode b_Model_way 39 = .ok (.aload_n 0, 1) := by decide +kernel
theorem d_Model_way_40 : decode b_Model_way 40 = .ok (.getfield 110, 3) := by decide +kernel
theorem d_Model_way_43 : decode b_Model_way 43 = .ok (.bipush 6, 2) := by decide +kernel
theorem d_Model_way_45 : decode b_Model_way 45 = .ok (.if_icmp .ne 5, 3) := by decide +kernel
theorem d_Model_way_48 : decode b_Model_way 48 = .ok (.iconst (-1), 1) := by decide +kernel
theorem d_Model_way_49 : decode b_Model_way 49 = .ok (.ireturn, 1) := by decide +kernel
theorem d_Model_way_50 : decode b_Model_way 50 = .ok (.aload_n 0, 1) := by decide +kernel
theorem d_Model_way_51 : decode b_Model_way 51 = .ok (.getfield 42, 3) := by decide +kernel
theorem d_Model_way_54 : decode b_Model_way 54 = .ok (.aload_n 0, 1) := by decide +kernel
theorem d_Model_way_55 : decode b_Model_way 55 = .ok (.getfield 110, 3) := by decide +kernel
theorem d_Model_way_58 : decode b_Model_way 58 = .ok (.lload_n 1, 1) := by decide +kernel
theorem d_Model_way_59 : decode b_Model_way 59 = .ok (.lastore, 1) := by decide +kernel
theorem d_Model_way_60 : decode b_Model_way 60 = .ok (.aload_n 0, 1) := by decide +kernel
theorem d_Model_way_61 : decode b_Model_way 61 = .ok (.getfield 45, 3) := by decide +kernel
theorem d_Model_way_64 : decode b_Model_way 64 = .ok (.aload_n 0, 1) := by decide +kernel
theorem d_Model_way_65 : decode b_Model_way 65 = .ok (.getfield 110, 3) := by decide +kernel
theorem d_Model_way_68 : decode b_Model_way 68 = .ok (.lload_n 3, 1) := by decide +kernel
theorem d_Model_way_69 : decode b_Model_way 69 = .ok (.lastore, 1) := by decide +kernel
theorem d_Model_way_70 : decode b_Model_way 70 = .ok (.aload_n 0, 1) := by decide +kernel
theorem d_Model_way_71 : decode b_Model_way 71 = .ok (.getfield 48, 3) := by decide +kernel
theorem d_Model_way_74 : decode b_Model_way 74 = .ok (.aload_n 0, 1) := by decide +kernel
theorem d_Model_way_75 : decode b_Model_way 75 = .ok (.getfield 110, 3) := by decide +kernel
theorem d_Model_way_78 : decode b_Model_way 78 = .ok (.lload 5, 2) := by decide +kernel
theorem d_Model_way_80 : decode b_Model_way 80 = .ok (.lastore, 1) := by decide +kernel
theorem d_Model_way_81 : decode b_Model_way 81 = .ok (.aload_n 0, 1) := by decide +kernel
theorem d_Model_way_82 : decode b_Model_way 82 = .ok (.dup, 1) := by decide +kernel
theorem d_Model_way_83 : decode b_Model_way 83 = .ok (.getfield 110, 3) := by decide +kernel
theorem d_Model_way_86 : decode b_Model_way 86 = .ok (.iconst 1, 1) := by decide +kernel
theorem d_Model_way_87 : decode b_Model_way 87 = .ok (.iadd, 1) := by decide +kernel
theorem d_Model_way_88 : decode b_Model_way 88 = .ok (.putfield 110, 3) := by decide +kernel
theorem d_Model_way_91 : decode b_Model_way 91 = .ok (.aload_n 0, 1) := by decide +kernel
theorem d_Model_way_92 : decode b_Model_way 92 = .ok (.iconst 0, 1) := by decide +kernel
theorem d_Model_way_93 : decode b_Model_way 93 = .ok (.putfield 102, 3) := by decide +kernel
theorem d_Model_way_96 : decode b_Model_way 96 = .ok (.aload_n 0, 1) := by decide +kernel
theorem d_Model_way_97 : decode b_Model_way 97 = .ok (.getfield 110, 3) := by decide +kernel
theorem d_Model_way_100 : decode b_Model_way 100 = .ok (.iconst 1, 1) := by decide +kernel
theorem d_Model_way_101 : decode b_Model_way 101 = .ok (.isub, 1) := by decide +kernel
theorem d_Model_way_102 : decode b_Model_way 102 = .ok (.ireturn, 1) := by decide +kernel
abbrev b_Model_bar : ByteArray := prog_7_method_9_code
def y_Model_bar : MethodName := ⟨R_Model, "bar", "(III)Z"⟩
def u_Model_bar : List Cond := Cond.code y_Model_bar b_Model_bar 5 (some .boolean) :: wG
theorem d_Model_bar_0 : decode b_Model_bar 0 = .ok (.aload_n 0, 1) := by decide +kernel
theorem d_Model_bar_1 : decode b_Model_bar 1 = .ok (.iconst 0, 1) := by decide +kernel
theorem d_Model_bar_2 : decode b_Model_bar 2 = .ok (.putfield 83, 3) := by decide +kernel
theorem d_Model_bar_5 : decode b_Model_bar 5 = .ok (.iload_n 1, 1) := by decide +kernel
theorem d_Model_bar_6 : decode b_Model_bar 6 = .ok (.i2l, 1) := by decide +kernel
theorem d_Model_bar_7 : decode b_Model_bar 7 = .ok (.lconst 0, 1) := by decide +kernel
theorem d_Model_bar_8 : decode b_Model_bar 8 = .ok (.aload_n 0, 1) := by decide +kernel
theorem d_Model_bar_9 : decode b_Model_bar 9 = .ok (.getfield 110, 3) := by decide +kernel
theorem d_Model_bar_12 : decode b_Model_bar 12 = .ok (.i2l, 1) := by decide +kernel
theorem d_Model_bar_13 : decode b_Model_bar 13 = .ok (.lconst 1, 1) := by decide +kernel
theorem d_Model_bar_14 : decode b_Model_bar 14 = .ok (.lsub, 1) := by decide +kernel
theorem d_Model_bar_15 : decode b_Model_bar 15 = .ok (.invokestatic 89, 3) := by decide +kernel
theorem d_Model_bar_18 : decode b_Model_bar 18 = .ok (.ifCond .eq 28, 3) := by decide +kernel
theorem d_Model_bar_21 : decode b_Model_bar 21 = .ok (.iload_n 2, 1) := by decide +kernel
theorem d_Model_bar_22 : decode b_Model_bar 22 = .ok (.i2l, 1) := by decide +kernel
theorem d_Model_bar_23 : decode b_Model_bar 23 = .ok (.lconst 0, 1) := by decide +kernel
theorem d_Model_bar_24 : decode b_Model_bar 24 = .ok (.ldc2_w 95, 3) := by decide +kernel
theorem d_Model_bar_27 : decode b_Model_bar 27 = .ok (.invokestatic 89, 3) := by decide +kernel
theorem d_Model_bar_30 : decode b_Model_bar 30 = .ok (.ifCond .eq 16, 3) := by decide +kernel
theorem d_Model_bar_33 : decode b_Model_bar 33 = .ok (.iload_n 3, 1) := by decide +kernel
theorem d_Model_bar_34 : decode b_Model_bar 34 = .ok (.i2l, 1) := by decide +kernel
theorem d_Model_bar_35 : decode b_Model_bar 35 = .ok (.iload_n 2, 1) := by decide +kernel
theorem d_Model_bar_36 : decode b_Model_bar 36 = .ok (.i2l, 1) := by decide +kernel
theorem d_Model_bar_37 : decode b_Model_bar 37 = .ok (.ldc2_w 95, 3) := by decide +kernel
theorem d_Model_bar_40 : decode b_Model_bar 40 = .ok (.invokestatic 89, 3) := by decide +kernel
theorem d_Model_bar_43 : decode b_Model_bar 43 = .ok (.ifCond .ne 5, 3) := by decide +kernel
theorem d_Model_bar_46 : decode b_Model_bar 46 = .ok (.iconst 0, 1) := by decide +kernel
theorem d_Model_bar_47 : decode b_Model_bar 47 = .ok (.ireturn, 1) := by decide +kernel
theorem d_Model_bar_48 : decode b_Model_bar 48 = .ok (.iload_n 2, 1) := by decide +kernel
theorem d_Model_bar_49 : decode b_Model_bar 49 = .ok (.istore 4, 2) := by decide +kernel
theorem d_Model_bar_51 : decode b_Model_bar 51 = .ok (.iload 4, 2) := by decide +kernel
theorem d_Model_bar_53 : decode b_Model_bar 53 = .ok (.iload_n 3, 1) := by decide +kernel
theorem d_Model_bar_54 : decode b_Model_bar 54 = .ok (.if_icmp .gt 22, 3) := by decide +kernel
theorem d_Model_bar_57 : decode b_Model_bar 57 = .ok (.aload_n 0, 1) := by decide +kernel
theorem d_Model_bar_58 : decode b_Model_bar 58 = .ok (.getfield 51, 3) := by decide +kernel
theorem d_Model_bar_61 : decode b_Model_bar 61 = .ok (.bipush 12, 2) := by decide +kernel
theorem d_Model_bar_63 : decode b_Model_bar 63 = .ok (.iload_n 1, 1) := by decide +kernel
theorem d_Model_bar_64 : decode b_Model_bar 64 = .ok (.imul, 1) := by decide +kernel
theorem d_Model_bar_65 : decode b_Model_bar 65 = .ok (.iload 4, 2) := by decide +kernel
theorem d_Model_bar_67 : decode b_Model_bar 67 = .ok (.iadd, 1) := by decide +kernel
theorem d_Model_bar_68 : decode b_Model_bar 68 = .ok (.iconst 1, 1) := by decide +kernel
theorem d_Model_bar_69 : decode b_Model_bar 69 = .ok (.bastore, 1) := by decide +kernel
theorem d_Model_bar_70 : decode b_Model_bar 70 = .ok (.iinc 4 1, 3) := by decide +kernel
theorem d_Model_bar_73 : decode b_Model_bar 73 = .ok (.goto (-22), 3) := by decide +kernel
theorem d_Model_bar_76 : decode b_Model_bar 76 = .ok (.aload_n 0, 1) := by decide +kernel
theorem d_Model_bar_77 : decode b_Model_bar 77 = .ok (.iconst 0, 1) := by decide +kernel
theorem d_Model_bar_78 : decode b_Model_bar 78 = .ok (.putfield 102, 3) := by decide +kernel
theorem d_Model_bar_81 : decode b_Model_bar 81 = .ok (.iconst 1, 1) := by decide +kernel
theorem d_Model_bar_82 : decode b_Model_bar 82 = .ok (.ireturn, 1) := by decide +kernel
abbrev b_Model_borrow : ByteArray := prog_7_method_10_code
def y_Model_borrow : MethodName := ⟨R_Model, "borrow", "(JJ)I"⟩
def u_Model_borrow : List Cond := Cond.code y_Model_borrow b_Model_borrow 5 (some .int) :: wG
theorem d_Model_borrow_0 : decode b_Model_borrow 0 = .ok (.aload_n 0, 1) := by decide +kernel
theorem d_Model_borrow_1 : decode b_Model_borrow 1 = .ok (.iconst 0, 1) := by decide +kernel
theorem d_Model_borrow_2 : decode b_Model_borrow 2 = .ok (.putfield 83, 3) := by decide +kernel
theorem d_Model_borrow_5 : decode b_Model_borrow 5 = .ok (.lload_n 1, 1) := by decide +kernel
theorem d_Model_borrow_6 : decode b_Model_borrow 6 = .ok (.lconst 0, 1) := by decide +kernel
theorem d_Model_borrow_7 : decode b_Model_borrow 7 = .ok (.ldc2_w 97, 3) := by decide +kernel
theorem d_Model_borrow_10 : decode b_Model_borrow 10 = .ok (.invokestatic 89, 3) := by decide +kernel
theorem d_Model_borrow_13 : decode b_Model_borrow 13 = .ok (.ifCond .eq 22, 3) := by decide +kernel
theorem d_Model_borrow_16 : decode b_Model_borrow 16 = .ok (.lload_n 3, 1) := by decide +kernel
theorem d_Model_borrow_17 : decode b_Model_borrow 17 = .ok (.lconst 0, 1) := by decide +kernel
theorem d_Model_borrow_18 : decode b_Model_borrow 18 = .ok (.ldc2_w 97, 3) := by decide +kernel
theorem d_Model_borrow_21 : decode b_Model_borrow 21 = .ok (.invokestatic 89, 3) := by decide +kernel
theorem d_Model_borrow_24 : decode b_Model_borrow 24 = .ok (.ifCond .eq 11, 3) := by decide +kernel
theorem d_Model_borrow_27 : decode b_Model_borrow 27 = .ok (.aload_n 0, 1) := by decide +kernel
theorem d_Model_borrow_28 : decode b_Model_borrow 28 = .ok (.getfield 113, 3) := by decide +kernel
theorem d_Model_borrow_31 : decode b_Model_borrow 31 = .ok (.iconst 4, 1) := by decide +kernel
theorem d_Model_borrow_32 : decode b_Model_borrow 32 = .ok (.if_icmp .ne 5, 3) := by decide +kernel
theorem d_Model_borrow_35 : decode b_Model_borrow 35 = .ok (.iconst (-1), 1) := by decide +kernel
theorem d_Model_borrow_36 : decode b_Model_borrow 36 = .ok (.ireturn, 1) := by decide +kernel
theorem d_Model_borrow_37 : decode b_Model_borrow 37 = .ok (.aload_n 0, 1) := by decide +kernel
theorem d_Model_borrow_38 : decode b_Model_borrow 38 = .ok (.getfield 54, 3) := by decide +kernel
theorem d_Model_borrow_41 : decode b_Model_borrow 41 = .ok (.aload_n 0, 1) := by decide +kernel
theorem d_Model_borrow_42 : decode b_Model_borrow 42 = .ok (.getfield 113, 3) := by decide +kernel
theorem d_Model_borrow_45 : decode b_Model_borrow 45 = .ok (.lload_n 1, 1) := by decide +kernel
theorem d_Model_borrow_46 : decode b_Model_borrow 46 = .ok (.lastore, 1) := by decide +kernel
theorem d_Model_borrow_47 : decode b_Model_borrow 47 = .ok (.aload_n 0, 1) := by decide +kernel
theorem d_Model_borrow_48 : decode b_Model_borrow 48 = .ok (.getfield 57, 3) := by decide +kernel
theorem d_Model_borrow_51 : decode b_Model_borrow 51 = .ok (.aload_n 0, 1) := by decide +kernel
theorem d_Model_borrow_52 : decode b_Model_borrow 52 = .ok (.getfield 113, 3) := by decide +kernel
theorem d_Model_borrow_55 : decode b_Model_borrow 55 = .ok (.lload_n 3, 1) := by decide +kernel
theorem d_Model_borrow_56 : decode b_Model_borrow 56 = .ok (.lastore, 1) := by decide +kernel
theorem d_Model_borrow_57 : decode b_Model_borrow 57 = .ok (.aload_n 0, 1) := by decide +kernel
theorem d_Model_borrow_58 : decode b_Model_borrow 58 = .ok (.dup, 1) := by decide +kernel
theorem d_Model_borrow_59 : decode b_Model_borrow 59 = .ok (.getfield 113, 3) := by decide +kernel
theorem d_Model_borrow_62 : decode b_Model_borrow 62 = .ok (.iconst 1, 1) := by decide +kernel
theorem d_Model_borrow_63 : decode b_Model_borrow 63 = .ok (.iadd, 1) := by decide +kernel
theorem d_Model_borrow_64 : decode b_Model_borrow 64 = .ok (.putfield 113, 3) := by decide +kernel
theorem d_Model_borrow_67 : decode b_Model_borrow 67 = .ok (.aload_n 0, 1) := by decide +kernel
theorem d_Model_borrow_68 : decode b_Model_borrow 68 = .ok (.iconst 0, 1) := by decide +kernel
theorem d_Model_borrow_69 : decode b_Model_borrow 69 = .ok (.putfield 102, 3) := by decide +kernel
theorem d_Model_borrow_72 : decode b_Model_borrow 72 = .ok (.aload_n 0, 1) := by decide +kernel
theorem d_Model_borrow_73 : decode b_Model_borrow 73 = .ok (.getfield 113, 3) := by decide +kernel
theorem d_Model_borrow_76 : decode b_Model_borrow 76 = .ok (.iconst 1, 1) := by decide +kernel
theorem d_Model_borrow_77 : decode b_Model_borrow 77 = .ok (.isub, 1) := by decide +kernel
theorem d_Model_borrow_78 : decode b_Model_borrow 78 = .ok (.ireturn, 1) := by decide +kernel
abbrev b_Model_most : ByteArray := prog_7_method_11_code
def y_Model_most : MethodName := ⟨R_Model, "most", "(IJ)Z"⟩
def u_Model_most : List Cond := Cond.code y_Model_most b_Model_most 4 (some .boolean) :: wG
theorem d_Model_most_0 : decode b_Model_most 0 = .ok (.aload_n 0, 1) := by decide +kernel
theorem d_Model_most_1 : decode b_Model_most 1 = .ok (.iconst 0, 1) := by decide +kernel
theorem d_Model_most_2 : decode b_Model_most 2 = .ok (.putfield 83, 3) := by decide +kernel
theorem d_Model_most_5 : decode b_Model_most 5 = .ok (.iload_n 1, 1) := by decide +kernel
theorem d_Model_most_6 : decode b_Model_most 6 = .ok (.i2l, 1) := by decide +kernel
theorem d_Model_most_7 : decode b_Model_most 7 = .ok (.lconst 0, 1) := by decide +kernel
theorem d_Model_most_8 : decode b_Model_most 8 = .ok (.ldc2_w 95, 3) := by decide +kernel
theorem d_Model_most_11 : decode b_Model_most 11 = .ok (.invokestatic 89, 3) := by decide +kernel
theorem d_Model_most_14 : decode b_Model_most 14 = .ok (.ifCond .eq 14, 3) := by decide +kernel
theorem d_Model_most_17 : decode b_Model_most 17 = .ok (.lload_n 2, 1) := by decide +kernel
theorem d_Model_most_18 : decode b_Model_most 18 = .ok (.lconst 0, 1) := by decide +kernel
theorem d_Model_most_19 : decode b_Model_most 19 = .ok (.ldc2_w 116, 3) := by decide +kernel
theorem d_Model_most_22 : decode b_Model_most 22 = .ok (.invokestatic 89, 3) := by decide +kernel
theorem d_Model_most_25 : decode b_Model_most 25 = .ok (.ifCond .ne 5, 3) := by decide +kernel
theorem d_Model_most_28 : decode b_Model_most 28 = .ok (.iconst 0, 1) := by decide +kernel
theorem d_Model_most_29 : decode b_Model_most 29 = .ok (.ireturn, 1) := by decide +kernel
theorem d_Model_most_30 : decode b_Model_most 30 = .ok (.aload_n 0, 1) := by decide +kernel
theorem d_Model_most_31 : decode b_Model_most 31 = .ok (.getfield 60, 3) := by decide +kernel
theorem d_Model_most_34 : decode b_Model_most 34 = .ok (.iload_n 1, 1) := by decide +kernel
theorem d_Model_most_35 : decode b_Model_most 35 = .ok (.lload_n 2, 1) := by decide +kernel
theorem d_Model_most_36 : decode b_Model_most 36 = .ok (.lastore, 1) := by decide +kernel
theorem d_Model_most_37 : decode b_Model_most 37 = .ok (.aload_n 0, 1) := by decide +kernel
theorem d_Model_most_38 : decode b_Model_most 38 = .ok (.iconst 0, 1) := by decide +kernel
theorem d_Model_most_39 : decode b_Model_most 39 = .ok (.putfield 102, 3) := by decide +kernel
theorem d_Model_most_42 : decode b_Model_most 42 = .ok (.iconst 1, 1) := by decide +kernel
theorem d_Model_most_43 : decode b_Model_most 43 = .ok (.ireturn, 1) := by decide +kernel
def f_Model_thrown (VM0 : Nat) : Nat :=
  (VM0)
set_option maxHeartbeats 4000000 in
set_option maxRecDepth 100000 in
theorem c_Model_thrown (l : Launch) (dC : Nat → ClassId) (dI : Nat → Nat → Nat) (cI cJ cZ : ClassId) (sz : Nat) (aM : Nat → Nat) (VM0 : Nat) (VM1 : Nat) (VM2 : Nat) (VM3 : Nat) (VM4 : Nat) (VM5 : Nat) (WM0 : Int64) (NM0 : Nat → Nat) (NM1 : Nat → Nat) (NM2 : Nat → Nat) (LM0 : Nat → Int64) (LM1 : Nat → Int64) (LM2 : Nat → Int64) (LM3 : Nat → Int64) (LM4 : Nat → Int64) (LM5 : Nat → Int64) (LM6 : Nat → Int64) (LM7 : Nat → Int64) (LM8 : Nat → Int64) (LM9 : Nat → Int64) (LM10 : Nat → Int64) (LM11 : Nat → Int64) (LM12 : Nat → Int64) (LM13 : Nat → Int64) (LM14 : Nat → Int64) (LM15 : Nat → Int64) (IM0 : Nat → Int32) (IM1 : Nat → Int32) (IM2 : Nat → Int32) (IM3 : Nat → Int32) : hh_Ci l y_Model_thrown u_Model_thrown ({ frames := 0, cells := 0, slots := 0, locals := 0 }) (dC, dI) vwCl [(cI, .int), (cJ, .long), (cZ, .boolean)] (w_M cI cJ cZ aM VM0 VM1 VM2 VM3 VM4 VM5 WM0 NM0 NM1 NM2 LM0 LM1 LM2 LM3 LM4 LM5 LM6 LM7 LM8 LM9 LM10 LM11 LM12 LM13 LM14 LM15 IM0 IM1 IM2 IM3) sz [.ref (aM 0)] (nI (f_Model_thrown VM0)) (w_M cI cJ cZ aM VM0 VM1 VM2 VM3 VM4 VM5 WM0 NM0 NM1 NM2 LM0 LM1 LM2 LM3 LM4 LM5 LM6 LM7 LM8 LM9 LM10 LM11 LM12 LM13 LM14 LM15 IM0 IM1 IM2 IM3) 0 0 := by
  unfold hh_Ci
  refine Met.ofW (cc := b_Model_thrown) (maxL := 1) (ret := (some .int)) (by decide) rfl ?_
  intro p e s m args below meth c s₁ B hml hv
  obtain ⟨rfl, hsz, hP, hK, hD0⟩ := hv
  have hx := B.exec
  have hb := B.bytes
  have hr := B.returns
  have hts := atoms_spec (ws := u_Model_thrown) B.pre
  have hG : ∀ w ∈ wG, w.before ([.ref (aM 0)]).toArray s = true := fun w h => hts w (List.mem_cons_of_mem _ h)
  have hown : s.vm.findClass R_Model = some m.cls := findClass_of_methodNamed B.named
  have hlocks := B.notSynchronized
  subst hsz
  have hD := hD0.self (sz := s.heap.size)
  generalize hAe : va_A (w_M cI cJ cZ aM VM0 VM1 VM2 VM3 VM4 VM5 WM0 NM0 NM1 NM2 LM0 LM1 LM2 LM3 LM4 LM5 LM6 LM7 LM8 LM9 LM10 LM11 LM12 LM13 LM14 LM15 IM0 IM1 IM2 IM3) s.heap.size = A at hD ⊢
  have hA : ∀ q : Nat, s.heap.size ≤ q → A q := fun q h => by rw [← hAe]; exact Or.inr h
  have hS : va_S A s.heap s.heap [] := va_S.rf
  have hl := lv_entry ([.ref (aM 0)]) (n := 1) (Nat.le_of_ble_eq_true rfl)
  rw [lg_entry_eq]
  generalize (lg_sl ([.ref (aM 0)]) ++ List.replicate (1 - (lg_sl ([.ref (aM 0)])).length) Slot.unset).toArray = ls at hl ⊢
  have hl : lv_has ls 1 [(0, .ref (aM 0))] := hl
  generalize hR : f_Model_thrown VM0 = r0
  obtain ⟨H, locs, hHe, hle⟩ : ∃ (H : Heap) (locs : List Loc), s.heap = H ∧ [] = locs := ⟨_, _, rfl, rfl⟩
  have hP : va_P (dC, dI) vwCl (w_M cI cJ cZ aM VM0 VM1 VM2 VM3 VM4 VM5 WM0 NM0 NM1 NM2 LM0 LM1 LM2 LM3 LM4 LM5 LM6 LM7 LM8 LM9 LM10 LM11 LM12 LM13 LM14 LM15 IM0 IM1 IM2 IM3) H := by rw [← hHe]; exact hP
  have hS : va_S A s.heap H locs := by rw [← hHe, ← hle]; exact hS
  refine hw_start hHe hle ?_
  unfold f_Model_thrown at hR
  refine lv_aload_n hx hb d_Model_thrown_0 rfl (lv_at hl 0 rfl) ?_
  refine va_get (D := (dC, dI)) (ci := 5) (v := .int (nI VM0)) (C := R_Model) (T := T_Model) (N := 30) hx hb hG in_Model hown hK hP 0 rfl rfl 0 (by decide) (hG _ m_614) (fun _ h9 => h9) rfl d_Model_thrown_1 ?_
  subst hR
  exact W.iret (v := nI VM0) hx hb hr (fun t ht hW => ⟨⟨_, (), rfl, rfl, by rw [ht]; exact hP, va_K.moved hW.alike hK, hD⟩, hS.F ht⟩) hS.2.2 d_Model_thrown_4
def f_Model_cut (VM1 : Nat) (VM5 : Nat) (NM0 : Nat → Nat) (NM1 : Nat → Nat) (LM0 : Nat → Int64) (LM1 : Nat → Int64) (x1 : Int64) (x3 : Int32) (x4 : Int32) (x5 : Int64) : Int32 × (Nat) × (Nat) × (Nat) × (Nat → Nat) × (Nat → Nat) × (Nat → Int64) × (Nat → Int64) :=
  hh_bind (f_Model_isIn x1 1 1000000) (fun y10 => if y10 = 0 then ((-1), 0, VM1, VM5, NM0, NM1, LM0, LM1) else (hh_bind (f_Model_isIn x3.toInt64 0 3) (fun y22 => if y22 = 0 then ((-1), 0, VM1, VM5, NM0, NM1, LM0, LM1) else (hh_bind (f_Model_isIn x4.toInt64 0 11) (fun y35 => if y35 = 0 then ((-1), 0, VM1, VM5, NM0, NM1, LM0, LM1) else (hh_bind (f_Model_isIn x5 0 100000) (fun y47 => if y47 = 0 then ((-1), 0, VM1, VM5, NM0, NM1, LM0, LM1) else (if VM1 = 8 then ((-1), 0, VM1, VM5, NM0, NM1, LM0, LM1) else (nI ((VM1 + 1) - 1), 0, VM1 + 1, 0, va_up NM0 VM1 x3.toNatClampNeg, va_up NM1 VM1 x4.toNatClampNeg, vp_updL LM0 VM1 x1, vp_updL LM1 VM1 x5)))))))))
set_option maxHeartbeats 4000000 in
set_option maxRecDepth 100000 in
theorem c_Model_cut (l : Launch) (dC : Nat → ClassId) (dI : Nat → Nat → Nat) (cI cJ cZ : ClassId) (sz : Nat) (aM : Nat → Nat) (VM0 : Nat) (VM1 : Nat) (VM2 : Nat) (VM3 : Nat) (VM4 : Nat) (VM5 : Nat) (WM0 : Int64) (NM0 : Nat → Nat) (NM1 : Nat → Nat) (NM2 : Nat → Nat) (LM0 : Nat → Int64) (LM1 : Nat → Int64) (LM2 : Nat → Int64) (LM3 : Nat → Int64) (LM4 : Nat → Int64) (LM5 : Nat → Int64) (LM6 : Nat → Int64) (LM7 : Nat → Int64) (LM8 : Nat → Int64) (LM9 : Nat → Int64) (LM10 : Nat → Int64) (LM11 : Nat → Int64) (LM12 : Nat → Int64) (LM13 : Nat → Int64) (LM14 : Nat → Int64) (LM15 : Nat → Int64) (IM0 : Nat → Int32) (IM1 : Nat → Int32) (IM2 : Nat → Int32) (IM3 : Nat → Int32) (x1 : Int64) (x3 : Int32) (x4 : Int32) (x5 : Int64) (m1 : VM1 ≤ 8) (m2 : VM2 ≤ 8) (m3 : VM3 ≤ 6) (m4 : VM4 ≤ 4) (mk4 : ∀ i, NM0 i < 4) (mcw : ∀ i, NM1 i < 12) (mfw : ∀ i, NM2 i < 12) (msb : ∀ i, i < 4 → ¬ LM5 i = 0) (m5 : VM5 ≤ 2) : hh_Ci l y_Model_cut u_Model_cut ({ frames := 1, cells := 0, slots := 0, locals := 25 }) (dC, dI) vwCl [(cI, .int), (cJ, .long), (cZ, .boolean)] (w_M cI cJ cZ aM VM0 VM1 VM2 VM3 VM4 VM5 WM0 NM0 NM1 NM2 LM0 LM1 LM2 LM3 LM4 LM5 LM6 LM7 LM8 LM9 LM10 LM11 LM12 LM13 LM14 LM15 IM0 IM1 IM2 IM3) sz [.ref (aM 0), .long x1, .int x3, .int x4, .long x5] ((f_Model_cut VM1 VM5 NM0 NM1 LM0 LM1 x1 x3 x4 x5).1) (w_M cI cJ cZ aM ((f_Model_cut VM1 VM5 NM0 NM1 LM0 LM1 x1 x3 x4 x5).2.1) ((f_Model_cut VM1 VM5 NM0 NM1 LM0 LM1 x1 x3 x4 x5).2.2.1) VM2 VM3 VM4 ((f_Model_cut VM1 VM5 NM0 NM1 LM0 LM1 x1 x3 x4 x5).2.2.2.1) WM0 ((f_Model_cut VM1 VM5 NM0 NM1 LM0 LM1 x1 x3 x4 x5).2.2.2.2.1) ((f_Model_cut VM1 VM5 NM0 NM1 LM0 LM1 x1 x3 x4 x5).2.2.2.2.2.1) NM2 ((f_Model_cut VM1 VM5 NM0 NM1 LM0 LM1 x1 x3 x4 x5).2.2.2.2.2.2.1) ((f_Model_cut VM1 VM5 NM0 NM1 LM0 LM1 x1 x3 x4 x5).2.2.2.2.2.2.2) LM2 LM3 LM4 LM5 LM6 LM7 LM8 LM9 LM10 LM11 LM12 LM13 LM14 LM15 IM0 IM1 IM2 IM3) 0 0 := by
  unfold hh_Ci
  refine Met.ofW (cc := b_Model_cut) (maxL := 7) (ret := (some .int)) (by decide) rfl ?_
  intro p e s m args below meth c s₁ B hml hv
  obtain ⟨rfl, hsz, hP, hK, hD0⟩ := hv
  have hx := B.exec
  have hb := B.bytes
  have hr := B.returns
  have hts := atoms_spec (ws := u_Model_cut) B.pre
  have hG : ∀ w ∈ wG, w.before ([.ref (aM 0), .long x1, .int x3, .int x4, .long x5]).toArray s = true := fun w h => hts w (List.mem_cons_of_mem _ h)
  have hown : s.vm.findClass R_Model = some m.cls := findClass_of_methodNamed B.named
  have hlocks := B.notSynchronized
  subst hsz
  have hD := hD0.self (sz := s.heap.size)
  generalize hAe : va_A (w_M cI cJ cZ aM VM0 VM1 VM2 VM3 VM4 VM5 WM0 NM0 NM1 NM2 LM0 LM1 LM2 LM3 LM4 LM5 LM6 LM7 LM8 LM9 LM10 LM11 LM12 LM13 LM14 LM15 IM0 IM1 IM2 IM3) s.heap.size = A at hD ⊢
  have hA : ∀ q : Nat, s.heap.size ≤ q → A q := fun q h => by rw [← hAe]; exact Or.inr h
  have hS : va_S A s.heap s.heap [] := va_S.rf
  have hl := lv_entry ([.ref (aM 0), .long x1, .int x3, .int x4, .long x5]) (n := 7) (Nat.le_of_ble_eq_true rfl)
  rw [lg_entry_eq]
  generalize (lg_sl ([.ref (aM 0), .long x1, .int x3, .int x4, .long x5]) ++ List.replicate (7 - (lg_sl ([.ref (aM 0), .long x1, .int x3, .int x4, .long x5])).length) Slot.unset).toArray = ls at hl ⊢
  have hl : lv_has ls 7 [(0, .ref (aM 0)), (1, .long x1), (3, .int x3), (4, .int x4), (5, .long x5)] := hl
  generalize hR : f_Model_cut VM1 VM5 NM0 NM1 LM0 LM1 x1 x3 x4 x5 = r0
  obtain ⟨H, locs, hHe, hle⟩ : ∃ (H : Heap) (locs : List Loc), s.heap = H ∧ [] = locs := ⟨_, _, rfl, rfl⟩
  have hP : va_P (dC, dI) vwCl (w_M cI cJ cZ aM VM0 VM1 VM2 VM3 VM4 VM5 WM0 NM0 NM1 NM2 LM0 LM1 LM2 LM3 LM4 LM5 LM6 LM7 LM8 LM9 LM10 LM11 LM12 LM13 LM14 LM15 IM0 IM1 IM2 IM3) H := by rw [← hHe]; exact hP
  have hS : va_S A s.heap H locs := by rw [← hHe, ← hle]; exact hS
  refine hw_start hHe hle ?_
  unfold f_Model_cut at hR
  refine lv_aload_n hx hb d_Model_cut_0 rfl (lv_at hl 0 rfl) ?_
  refine lv_iconst (v := nI 0) hx hb d_Model_cut_1 (by decide) ?_
  refine va_put (D := (dC, dI)) (ci := 5) (v := .int (nI 0)) (ty := .int) (C := R_Model) (T := T_Model) (N := 30) hx hb hG in_Model ty_Model tok_Model nok_Model hown hK hP hD hS 0 rfl rfl 0 (by decide) (hG _ m_614) (fun _ h9 => h9) rfl (by decide +kernel) rfl rfl (Nat.le_of_ble_eq_true rfl) d_Model_cut_2 (fun H locs hP hD hS => ?_)
  have hP : va_P (dC, dI) vwCl (w_M cI cJ cZ aM 0 VM1 VM2 VM3 VM4 VM5 WM0 NM0 NM1 NM2 LM0 LM1 LM2 LM3 LM4 LM5 LM6 LM7 LM8 LM9 LM10 LM11 LM12 LM13 LM14 LM15 IM0 IM1 IM2 IM3) H := hP
  have hD : va_D A (w_M cI cJ cZ aM 0 VM1 VM2 VM3 VM4 VM5 WM0 NM0 NM1 NM2 LM0 LM1 LM2 LM3 LM4 LM5 LM6 LM7 LM8 LM9 LM10 LM11 LM12 LM13 LM14 LM15 IM0 IM1 IM2 IM3) := hD
  refine lv_lload_n hx hb d_Model_cut_5 rfl (lv_at hl 1 rfl) ?_
  refine lv_lconst (v := 1) hx hb d_Model_cut_6 (by decide) ?_
  refine lv_ldc2 (v := 1000000) hx hb hown (hG _ m_713) d_Model_cut_7 ?_
  obtain ⟨y10, hy10, hR⟩ := hw_bind hR
  have hM := c_Model_isIn l dC dI cI cJ cZ H.size x1 1 1000000
  rw [hy10] at hM
  refine hw_callSi (As := [.long x1, .long 1, .long 1000000]) (rest := []) (wr := w_M cI cJ cZ aM 0 VM1 VM2 VM3 VM4 VM5 WM0 NM0 NM1 NM2 LM0 LM1 LM2 LM3 LM4 LM5 LM6 LM7 LM8 LM9 LM10 LM11 LM12 LM13 LM14 LM15 IM0 IM1 IM2 IM3) ⟨hx, hb, hml, hown, hG⟩ hM (hw_cwS 3 hG m_714 m_715 m_7 m_716 rfl rfl (by decide +kernel) ⟨Nat.le_of_ble_eq_true rfl, Nat.le_of_ble_eq_true rfl⟩) hK hP hD hS hA [] [0, 1, 2, 3, 4, 5, 6, 7, 8, 9, 10, 11, 12, 13, 14, 15, 16, 17, 18, 19, 20, 21, 22, 23] rfl rfl (by decide) (by decide) (by decide) rfl hl.1 rfl (Nat.le_of_ble_eq_true rfl) d_Model_cut_10 ⟨Nat.le_of_ble_eq_true rfl, Nat.le_of_ble_eq_true rfl⟩ (fun H locs hP hD hS => ?_)
  have hP : va_P (dC, dI) vwCl (w_M cI cJ cZ aM 0 VM1 VM2 VM3 VM4 VM5 WM0 NM0 NM1 NM2 LM0 LM1 LM2 LM3 LM4 LM5 LM6 LM7 LM8 LM9 LM10 LM11 LM12 LM13 LM14 LM15 IM0 IM1 IM2 IM3) H := hP
  have hD : va_D A (w_M cI cJ cZ aM 0 VM1 VM2 VM3 VM4 VM5 WM0 NM0 NM1 NM2 LM0 LM1 LM2 LM3 LM4 LM5 LM6 LM7 LM8 LM9 LM10 LM11 LM12 LM13 LM14 LM15 IM0 IM1 IM2 IM3) := hD
  refine lv_if_eq (tgt := 62) hx hb d_Model_cut_13 (by decide) (fun c13 => ?_) (fun c13 => ?_)
  · replace hR := (if_pos c13).symm.trans hR
    refine lv_iconst (v := (-1)) hx hb d_Model_cut_62 (by decide) ?_
    subst hR
    exact W.iret (v := (-1)) hx hb hr (fun t ht hW => ⟨⟨_, (), rfl, rfl, by rw [ht]; exact hP, va_K.moved hW.alike hK, hD⟩, hS.F ht⟩) hS.2.2 d_Model_cut_63
  · replace hR := (if_neg c13).symm.trans hR
    refine lv_iload_n hx hb d_Model_cut_16 rfl (lv_at hl 2 rfl) ?_
    refine lv_i2l (v := x3.toInt64) hx hb d_Model_cut_17 rfl ?_
    refine lv_lconst (v := 0) hx hb d_Model_cut_18 (by decide) ?_
    refine lv_ldc2 (v := 3) hx hb hown (hG _ m_717) d_Model_cut_19 ?_
    obtain ⟨y22, hy22, hR⟩ := hw_bind hR
    have hM := c_Model_isIn l dC dI cI cJ cZ H.size x3.toInt64 0 3
    rw [hy22] at hM
    refine hw_callSi (As := [.long x3.toInt64, .long 0, .long 3]) (rest := []) (wr := w_M cI cJ cZ aM 0 VM1 VM2 VM3 VM4 VM5 WM0 NM0 NM1 NM2 LM0 LM1 LM2 LM3 LM4 LM5 LM6 LM7 LM8 LM9 LM10 LM11 LM12 LM13 LM14 LM15 IM0 IM1 IM2 IM3) ⟨hx, hb, hml, hown, hG⟩ hM (hw_cwS 3 hG m_714 m_715 m_7 m_716 rfl rfl (by decide +kernel) ⟨Nat.le_of_ble_eq_true rfl, Nat.le_of_ble_eq_true rfl⟩) hK hP hD hS hA [] [0, 1, 2, 3, 4, 5, 6, 7, 8, 9, 10, 11, 12, 13, 14, 15, 16, 17, 18, 19, 20, 21, 22, 23] rfl rfl (by decide) (by decide) (by decide) rfl hl.1 rfl (Nat.le_of_ble_eq_true rfl) d_Model_cut_22 ⟨Nat.le_of_ble_eq_true rfl, Nat.le_of_ble_eq_true rfl⟩ (fun H locs hP hD hS => ?_)
    have hP : va_P (dC, dI) vwCl (w_M cI cJ cZ aM 0 VM1 VM2 VM3 VM4 VM5 WM0 NM0 NM1 NM2 LM0 LM1 LM2 LM3 LM4 LM5 LM6 LM7 LM8 LM9 LM10 LM11 LM12 LM13 LM14 LM15 IM0 IM1 IM2 IM3) H := hP
    have hD : va_D A (w_M cI cJ cZ aM 0 VM1 VM2 VM3 VM4 VM5 WM0 NM0 NM1 NM2 LM0 LM1 LM2 LM3 LM4 LM5 LM6 LM7 LM8 LM9 LM10 LM11 LM12 LM13 LM14 LM15 IM0 IM1 IM2 IM3) := hD
    have hbl22 := hm_in (x := x3) (n := 4) (hi := 3) (by decide)
    rw [hy22] at hbl22
    refine lv_if_eq (tgt := 62) hx hb d_Model_cut_25 (by decide) (fun c25 => ?_) (fun c25 => ?_)
    · replace hR := (if_pos c25).symm.trans hR
      refine lv_iconst (v := (-1)) hx hb d_Model_cut_62 (by decide) ?_
      subst hR
      exact W.iret (v := (-1)) hx hb hr (fun t ht hW => ⟨⟨_, (), rfl, rfl, by rw [ht]; exact hP, va_K.moved hW.alike hK, hD⟩, hS.F ht⟩) hS.2.2 d_Model_cut_63
    · replace hR := (if_neg c25).symm.trans hR
      refine lv_iload hx hb d_Model_cut_28 (lv_at hl 3 rfl) ?_
      refine lv_i2l (v := x4.toInt64) hx hb d_Model_cut_30 rfl ?_
      refine lv_lconst (v := 0) hx hb d_Model_cut_31 (by decide) ?_
      refine lv_ldc2 (v := 11) hx hb hown (hG _ m_718) d_Model_cut_32 ?_
      obtain ⟨y35, hy35, hR⟩ := hw_bind hR
      have hM := c_Model_isIn l dC dI cI cJ cZ H.size x4.toInt64 0 11
      rw [hy35] at hM
      refine hw_callSi (As := [.long x4.toInt64, .long 0, .long 11]) (rest := []) (wr := w_M cI cJ cZ aM 0 VM1 VM2 VM3 VM4 VM5 WM0 NM0 NM1 NM2 LM0 LM1 LM2 LM3 LM4 LM5 LM6 LM7 LM8 LM9 LM10 LM11 LM12 LM13 LM14 LM15 IM0 IM1 IM2 IM3) ⟨hx, hb, hml, hown, hG⟩ hM (hw_cwS 3 hG m_714 m_715 m_7 m_716 rfl rfl (by decide +kernel) ⟨Nat.le_of_ble_eq_true rfl, Nat.le_of_ble_eq_true rfl⟩) hK hP hD hS hA [] [0, 1, 2, 3, 4, 5, 6, 7, 8, 9, 10, 11, 12, 13, 14, 15, 16, 17, 18, 19, 20, 21, 22, 23] rfl rfl (by decide) (by decide) (by decide) rfl hl.1 rfl (Nat.le_of_ble_eq_true rfl) d_Model_cut_35 ⟨Nat.le_of_ble_eq_true rfl, Nat.le_of_ble_eq_true rfl⟩ (fun H locs hP hD hS => ?_)
      have hP : va_P (dC, dI) vwCl (w_M cI cJ cZ aM 0 VM1 VM2 VM3 VM4 VM5 WM0 NM0 NM1 NM2 LM0 LM1 LM2 LM3 LM4 LM5 LM6 LM7 LM8 LM9 LM10 LM11 LM12 LM13 LM14 LM15 IM0 IM1 IM2 IM3) H := hP
      have hD : va_D A (w_M cI cJ cZ aM 0 VM1 VM2 VM3 VM4 VM5 WM0 NM0 NM1 NM2 LM0 LM1 LM2 LM3 LM4 LM5 LM6 LM7 LM8 LM9 LM10 LM11 LM12 LM13 LM14 LM15 IM0 IM1 IM2 IM3) := hD
      have hbl35 := hm_in (x := x4) (n := 12) (hi := 11) (by decide)
      rw [hy35] at hbl35
      refine lv_if_eq (tgt := 62) hx hb d_Model_cut_38 (by decide) (fun c38 => ?_) (fun c38 => ?_)
      · replace hR := (if_pos c38).symm.trans hR
        refine lv_iconst (v := (-1)) hx hb d_Model_cut_62 (by decide) ?_
        subst hR
        exact W.iret (v := (-1)) hx hb hr (fun t ht hW => ⟨⟨_, (), rfl, rfl, by rw [ht]; exact hP, va_K.moved hW.alike hK, hD⟩, hS.F ht⟩) hS.2.2 d_Model_cut_63
      · replace hR := (if_neg c38).symm.trans hR
        refine lv_lload hx hb d_Model_cut_41 (lv_at hl 4 rfl) ?_
        refine lv_lconst (v := 0) hx hb d_Model_cut_43 (by decide) ?_
        refine lv_ldc2 (v := 100000) hx hb hown (hG _ m_719) d_Model_cut_44 ?_
        obtain ⟨y47, hy47, hR⟩ := hw_bind hR
        have hM := c_Model_isIn l dC dI cI cJ cZ H.size x5 0 100000
        rw [hy47] at hM
        refine hw_callSi (As := [.long x5, .long 0, .long 100000]) (rest := []) (wr := w_M cI cJ cZ aM 0 VM1 VM2 VM3 VM4 VM5 WM0 NM0 NM1 NM2 LM0 LM1 LM2 LM3 LM4 LM5 LM6 LM7 LM8 LM9 LM10 LM11 LM12 LM13 LM14 LM15 IM0 IM1 IM2 IM3) ⟨hx, hb, hml, hown, hG⟩ hM (hw_cwS 3 hG m_714 m_715 m_7 m_716 rfl rfl (by decide +kernel) ⟨Nat.le_of_ble_eq_true rfl, Nat.le_of_ble_eq_true rfl⟩) hK hP hD hS hA [] [0, 1, 2, 3, 4, 5, 6, 7, 8, 9, 10, 11, 12, 13, 14, 15, 16, 17, 18, 19, 20, 21, 22, 23] rfl rfl (by decide) (by decide) (by decide) rfl hl.1 rfl (Nat.le_of_ble_eq_true rfl) d_Model_cut_47 ⟨Nat.le_of_ble_eq_true rfl, Nat.le_of_ble_eq_true rfl⟩ (fun H locs hP hD hS => ?_)
        have hP : va_P (dC, dI) vwCl (w_M cI cJ cZ aM 0 VM1 VM2 VM3 VM4 VM5 WM0 NM0 NM1 NM2 LM0 LM1 LM2 LM3 LM4 LM5 LM6 LM7 LM8 LM9 LM10 LM11 LM12 LM13 LM14 LM15 IM0 IM1 IM2 IM3) H := hP
        have hD : va_D A (w_M cI cJ cZ aM 0 VM1 VM2 VM3 VM4 VM5 WM0 NM0 NM1 NM2 LM0 LM1 LM2 LM3 LM4 LM5 LM6 LM7 LM8 LM9 LM10 LM11 LM12 LM13 LM14 LM15 IM0 IM1 IM2 IM3) := hD
        refine lv_if_eq (tgt := 62) hx hb d_Model_cut_50 (by decide) (fun c50 => ?_) (fun c50 => ?_)
        · replace hR := (if_pos c50).symm.trans hR
          refine lv_iconst (v := (-1)) hx hb d_Model_cut_62 (by decide) ?_
          subst hR
          exact W.iret (v := (-1)) hx hb hr (fun t ht hW => ⟨⟨_, (), rfl, rfl, by rw [ht]; exact hP, va_K.moved hW.alike hK, hD⟩, hS.F ht⟩) hS.2.2 d_Model_cut_63
        · replace hR := (if_neg c50).symm.trans hR
          refine lv_aload_n hx hb d_Model_cut_53 rfl (lv_at hl 0 rfl) ?_
          refine va_get (D := (dC, dI)) (ci := 5) (v := .int (nI VM1)) (C := R_Model) (T := T_Model) (N := 30) hx hb hG in_Model hown hK hP 0 rfl rfl 1 (by decide) (hG _ m_615) (fun _ h9 => h9) rfl d_Model_cut_54 ?_
          refine lv_bipush (v := nI 8) hx hb d_Model_cut_57 (by decide) ?_
          refine hw_icmp_ne (tgt := 64) hx hb d_Model_cut_59 (by decide) (by omega) (by omega) (fun c59 => ?_) (fun c59 => ?_)
          · replace hR := (if_neg c59).symm.trans hR
            obtain ⟨hna3, hnb3⟩ := hbl22 c25
            obtain ⟨hna4, hnb4⟩ := hbl35 c38
            have en64_3 : nI (x3.toNatClampNeg) = x3 := hw_nat hna3
            have hl : lv_has ls 7 [(0, .ref (aM 0)), (1, .long x1), (3, .int (nI x3.toNatClampNeg)), (4, .int x4), (5, .long x5)] := by rw [en64_3]; exact hl
            have en64_4 : nI (x4.toNatClampNeg) = x4 := hw_nat hna4
            have hl : lv_has ls 7 [(0, .ref (aM 0)), (1, .long x1), (3, .int (nI x3.toNatClampNeg)), (4, .int (nI x4.toNatClampNeg)), (5, .long x5)] := by rw [en64_4]; exact hl
            refine lv_aload_n hx hb d_Model_cut_64 rfl (lv_at hl 0 rfl) ?_
            refine va_get (D := (dC, dI)) (ci := 5) (v := .ref (aM 1)) (C := R_Model) (T := T_Model) (N := 30) hx hb hG in_Model hown hK hP 0 rfl rfl 2 (by decide) (hG _ m_616) (fun _ h9 => h9) rfl d_Model_cut_65 ?_
            refine lv_aload_n hx hb d_Model_cut_68 rfl (lv_at hl 0 rfl) ?_
            refine va_get (D := (dC, dI)) (ci := 5) (v := .int (nI VM1)) (C := R_Model) (T := T_Model) (N := 30) hx hb hG in_Model hown hK hP 0 rfl rfl 1 (by decide) (hG _ m_615) (fun _ h9 => h9) rfl d_Model_cut_69 ?_
            refine lv_lload_n hx hb d_Model_cut_72 rfl (lv_at hl 1 rfl) ?_
            refine hw_last (f := LM0) hx hb hK hP hD hS 1 1 rfl rfl (by decide) (by omega) d_Model_cut_73 (fun H locs hP hD hS => ?_)
            have hP : va_P (dC, dI) vwCl (w_M cI cJ cZ aM 0 VM1 VM2 VM3 VM4 VM5 WM0 NM0 NM1 NM2 (vp_updL LM0 VM1 x1) LM1 LM2 LM3 LM4 LM5 LM6 LM7 LM8 LM9 LM10 LM11 LM12 LM13 LM14 LM15 IM0 IM1 IM2 IM3) H := hP
            have hD : va_D A (w_M cI cJ cZ aM 0 VM1 VM2 VM3 VM4 VM5 WM0 NM0 NM1 NM2 (vp_updL LM0 VM1 x1) LM1 LM2 LM3 LM4 LM5 LM6 LM7 LM8 LM9 LM10 LM11 LM12 LM13 LM14 LM15 IM0 IM1 IM2 IM3) := hD
            refine lv_aload_n hx hb d_Model_cut_74 rfl (lv_at hl 0 rfl) ?_
            refine va_get (D := (dC, dI)) (ci := 5) (v := .ref (aM 2)) (C := R_Model) (T := T_Model) (N := 30) hx hb hG in_Model hown hK hP 0 rfl rfl 3 (by decide) (hG _ m_617) (fun _ h9 => h9) rfl d_Model_cut_75 ?_
            refine lv_aload_n hx hb d_Model_cut_78 rfl (lv_at hl 0 rfl) ?_
            refine va_get (D := (dC, dI)) (ci := 5) (v := .int (nI VM1)) (C := R_Model) (T := T_Model) (N := 30) hx hb hG in_Model hown hK hP 0 rfl rfl 1 (by decide) (hG _ m_615) (fun _ h9 => h9) rfl d_Model_cut_79 ?_
            refine lv_iload_n hx hb d_Model_cut_82 rfl (lv_at hl 2 rfl) ?_
            refine hw_nast (g := NM0) hx hb hK hP hD hS 2 0 rfl rfl (by decide) (by omega) d_Model_cut_83 (fun H locs hP hD hS => ?_)
            have hP : va_P (dC, dI) vwCl (w_M cI cJ cZ aM 0 VM1 VM2 VM3 VM4 VM5 WM0 (va_up NM0 VM1 x3.toNatClampNeg) NM1 NM2 (vp_updL LM0 VM1 x1) LM1 LM2 LM3 LM4 LM5 LM6 LM7 LM8 LM9 LM10 LM11 LM12 LM13 LM14 LM15 IM0 IM1 IM2 IM3) H := hP
            have hD : va_D A (w_M cI cJ cZ aM 0 VM1 VM2 VM3 VM4 VM5 WM0 (va_up NM0 VM1 x3.toNatClampNeg) NM1 NM2 (vp_updL LM0 VM1 x1) LM1 LM2 LM3 LM4 LM5 LM6 LM7 LM8 LM9 LM10 LM11 LM12 LM13 LM14 LM15 IM0 IM1 IM2 IM3) := hD
            refine lv_aload_n hx hb d_Model_cut_84 rfl (lv_at hl 0 rfl) ?_
            refine va_get (D := (dC, dI)) (ci := 5) (v := .ref (aM 3)) (C := R_Model) (T := T_Model) (N := 30) hx hb hG in_Model hown hK hP 0 rfl rfl 4 (by decide) (hG _ m_618) (fun _ h9 => h9) rfl d_Model_cut_85 ?_
            refine lv_aload_n hx hb d_Model_cut_88 rfl (lv_at hl 0 rfl) ?_
            refine va_get (D := (dC, dI)) (ci := 5) (v := .int (nI VM1)) (C := R_Model) (T := T_Model) (N := 30) hx hb hG in_Model hown hK hP 0 rfl rfl 1 (by decide) (hG _ m_615) (fun _ h9 => h9) rfl d_Model_cut_89 ?_
            refine lv_iload hx hb d_Model_cut_92 (lv_at hl 3 rfl) ?_
            refine hw_nast (g := NM1) hx hb hK hP hD hS 3 0 rfl rfl (by decide) (by omega) d_Model_cut_94 (fun H locs hP hD hS => ?_)
            have hP : va_P (dC, dI) vwCl (w_M cI cJ cZ aM 0 VM1 VM2 VM3 VM4 VM5 WM0 (va_up NM0 VM1 x3.toNatClampNeg) (va_up NM1 VM1 x4.toNatClampNeg) NM2 (vp_updL LM0 VM1 x1) LM1 LM2 LM3 LM4 LM5 LM6 LM7 LM8 LM9 LM10 LM11 LM12 LM13 LM14 LM15 IM0 IM1 IM2 IM3) H := hP
            have hD : va_D A (w_M cI cJ cZ aM 0 VM1 VM2 VM3 VM4 VM5 WM0 (va_up NM0 VM1 x3.toNatClampNeg) (va_up NM1 VM1 x4.toNatClampNeg) NM2 (vp_updL LM0 VM1 x1) LM1 LM2 LM3 LM4 LM5 LM6 LM7 LM8 LM9 LM10 LM11 LM12 LM13 LM14 LM15 IM0 IM1 IM2 IM3) := hD
            refine lv_aload_n hx hb d_Model_cut_95 rfl (lv_at hl 0 rfl) ?_
            refine va_get (D := (dC, dI)) (ci := 5) (v := .ref (aM 4)) (C := R_Model) (T := T_Model) (N := 30) hx hb hG in_Model hown hK hP 0 rfl rfl 5 (by decide) (hG _ m_619) (fun _ h9 => h9) rfl d_Model_cut_96 ?_
            refine lv_aload_n hx hb d_Model_cut_99 rfl (lv_at hl 0 rfl) ?_
            refine va_get (D := (dC, dI)) (ci := 5) (v := .int (nI VM1)) (C := R_Model) (T := T_Model) (N := 30) hx hb hG in_Model hown hK hP 0 rfl rfl 1 (by decide) (hG _ m_615) (fun _ h9 => h9) rfl d_Model_cut_100 ?_
            refine lv_lload hx hb d_Model_cut_103 (lv_at hl 4 rfl) ?_
            refine hw_last (f := LM1) hx hb hK hP hD hS 4 1 rfl rfl (by decide) (by omega) d_Model_cut_105 (fun H locs hP hD hS => ?_)
            have hP : va_P (dC, dI) vwCl (w_M cI cJ cZ aM 0 VM1 VM2 VM3 VM4 VM5 WM0 (va_up NM0 VM1 x3.toNatClampNeg) (va_up NM1 VM1 x4.toNatClampNeg) NM2 (vp_updL LM0 VM1 x1) (vp_updL LM1 VM1 x5) LM2 LM3 LM4 LM5 LM6 LM7 LM8 LM9 LM10 LM11 LM12 LM13 LM14 LM15 IM0 IM1 IM2 IM3) H := hP
            have hD : va_D A (w_M cI cJ cZ aM 0 VM1 VM2 VM3 VM4 VM5 WM0 (va_up NM0 VM1 x3.toNatClampNeg) (va_up NM1 VM1 x4.toNatClampNeg) NM2 (vp_updL LM0 VM1 x1) (vp_updL LM1 VM1 x5) LM2 LM3 LM4 LM5 LM6 LM7 LM8 LM9 LM10 LM11 LM12 LM13 LM14 LM15 IM0 IM1 IM2 IM3) := hD
            refine lv_aload_n hx hb d_Model_cut_106 rfl (lv_at hl 0 rfl) ?_
            refine lv_dup hx hb d_Model_cut_107 rfl ?_
            refine va_get (D := (dC, dI)) (ci := 5) (v := .int (nI VM1)) (C := R_Model) (T := T_Model) (N := 30) hx hb hG in_Model hown hK hP 0 rfl rfl 1 (by decide) (hG _ m_615) (fun _ h9 => h9) rfl d_Model_cut_108 ?_
            refine lv_iconst (v := nI 1) hx hb d_Model_cut_111 (by decide) ?_
            refine hw_iadd hx hb d_Model_cut_112 ?_
            refine va_put (D := (dC, dI)) (ci := 5) (v := .int (nI (VM1 + 1))) (ty := .int) (C := R_Model) (T := T_Model) (N := 30) hx hb hG in_Model ty_Model tok_Model nok_Model hown hK hP hD hS 0 rfl rfl 1 (by decide) (hG _ m_615) (fun _ h9 => h9) rfl (by decide +kernel) rfl rfl (Nat.le_of_ble_eq_true rfl) d_Model_cut_113 (fun H locs hP hD hS => ?_)
            have hP : va_P (dC, dI) vwCl (w_M cI cJ cZ aM 0 (VM1 + 1) VM2 VM3 VM4 VM5 WM0 (va_up NM0 VM1 x3.toNatClampNeg) (va_up NM1 VM1 x4.toNatClampNeg) NM2 (vp_updL LM0 VM1 x1) (vp_updL LM1 VM1 x5) LM2 LM3 LM4 LM5 LM6 LM7 LM8 LM9 LM10 LM11 LM12 LM13 LM14 LM15 IM0 IM1 IM2 IM3) H := hP
            have hD : va_D A (w_M cI cJ cZ aM 0 (VM1 + 1) VM2 VM3 VM4 VM5 WM0 (va_up NM0 VM1 x3.toNatClampNeg) (va_up NM1 VM1 x4.toNatClampNeg) NM2 (vp_updL LM0 VM1 x1) (vp_updL LM1 VM1 x5) LM2 LM3 LM4 LM5 LM6 LM7 LM8 LM9 LM10 LM11 LM12 LM13 LM14 LM15 IM0 IM1 IM2 IM3) := hD
            refine lv_aload_n hx hb d_Model_cut_116 rfl (lv_at hl 0 rfl) ?_
            refine lv_iconst (v := nI 0) hx hb d_Model_cut_117 (by decide) ?_
            refine va_put (D := (dC, dI)) (ci := 5) (v := .int (nI 0)) (ty := .int) (C := R_Model) (T := T_Model) (N := 30) hx hb hG in_Model ty_Model tok_Model nok_Model hown hK hP hD hS 0 rfl rfl 22 (by decide) (hG _ m_636) (fun _ h9 => h9) rfl (by decide +kernel) rfl rfl (Nat.le_of_ble_eq_true rfl) d_Model_cut_118 (fun H locs hP hD hS => ?_)
            have hP : va_P (dC, dI) vwCl (w_M cI cJ cZ aM 0 (VM1 + 1) VM2 VM3 VM4 0 WM0 (va_up NM0 VM1 x3.toNatClampNeg) (va_up NM1 VM1 x4.toNatClampNeg) NM2 (vp_updL LM0 VM1 x1) (vp_updL LM1 VM1 x5) LM2 LM3 LM4 LM5 LM6 LM7 LM8 LM9 LM10 LM11 LM12 LM13 LM14 LM15 IM0 IM1 IM2 IM3) H := hP
            have hD : va_D A (w_M cI cJ cZ aM 0 (VM1 + 1) VM2 VM3 VM4 0 WM0 (va_up NM0 VM1 x3.toNatClampNeg) (va_up NM1 VM1 x4.toNatClampNeg) NM2 (vp_updL LM0 VM1 x1) (vp_updL LM1 VM1 x5) LM2 LM3 LM4 LM5 LM6 LM7 LM8 LM9 LM10 LM11 LM12 LM13 LM14 LM15 IM0 IM1 IM2 IM3) := hD
            refine lv_aload_n hx hb d_Model_cut_121 rfl (lv_at hl 0 rfl) ?_
            refine va_get (D := (dC, dI)) (ci := 5) (v := .int (nI (VM1 + 1))) (C := R_Model) (T := T_Model) (N := 30) hx hb hG in_Model hown hK hP 0 rfl rfl 1 (by decide) (hG _ m_615) (fun _ h9 => h9) rfl d_Model_cut_122 ?_
            refine lv_iconst (v := nI 1) hx hb d_Model_cut_125 (by decide) ?_
            refine hw_isub hx hb d_Model_cut_126 (by omega) ?_
            subst hR
            exact W.iret (v := nI ((VM1 + 1) - 1)) hx hb hr (fun t ht hW => ⟨⟨_, (), rfl, rfl, by rw [ht]; exact hP, va_K.moved hW.alike hK, hD⟩, hS.F ht⟩) hS.2.2 d_Model_cut_127
          · replace hR := (if_pos c59).symm.trans hR
            refine lv_iconst (v := (-1)) hx hb d_Model_cut_62 (by decide) ?_
            subst hR
            exact W.iret (v := (-1)) hx hb hr (fun t ht hW => ⟨⟨_, (), rfl, rfl, by rw [ht]; exact hP, va_K.moved hW.alike hK, hD⟩, hS.F ht⟩) hS.2.2 d_Model_cut_63
def f_Model_fill (VM2 : Nat) (VM5 : Nat) (NM2 : Nat → Nat) (LM2 : Nat → Int64) (LM3 : Nat → Int64) (x1 : Int64) (x3 : Int32) (x4 : Int64) : Int32 × (Nat) × (Nat) × (Nat) × (Nat → Nat) × (Nat → Int64) × (Nat → Int64) :=
  hh_bind (f_Model_isIn x1 1 1000000) (fun y10 => if y10 = 0 then ((-1), 0, VM2, VM5, NM2, LM2, LM3) else (hh_bind (f_Model_isIn x3.toInt64 0 11) (fun y22 => if y22 = 0 then ((-1), 0, VM2, VM5, NM2, LM2, LM3) else (hh_bind (f_Model_isIn x4 0 100000) (fun y34 => if y34 = 0 then ((-1), 0, VM2, VM5, NM2, LM2, LM3) else (if VM2 = 8 then ((-1), 0, VM2, VM5, NM2, LM2, LM3) else (nI ((VM2 + 1) - 1), 0, VM2 + 1, 0, va_up NM2 VM2 x3.toNatClampNeg, vp_updL LM2 VM2 x1, vp_updL LM3 VM2 x4)))))))
set_option maxHeartbeats 4000000 in
set_option maxRecDepth 100000 in
theorem c_Model_fill (l : Launch) (dC : Nat → ClassId) (dI : Nat → Nat → Nat) (cI cJ cZ : ClassId) (sz : Nat) (aM : Nat → Nat) (VM0 : Nat) (VM1 : Nat) (VM2 : Nat) (VM3 : Nat) (VM4 : Nat) (VM5 : Nat) (WM0 : Int64) (NM0 : Nat → Nat) (NM1 : Nat → Nat) (NM2 : Nat → Nat) (LM0 : Nat → Int64) (LM1 : Nat → Int64) (LM2 : Nat → Int64) (LM3 : Nat → Int64) (LM4 : Nat → Int64) (LM5 : Nat → Int64) (LM6 : Nat → Int64) (LM7 : Nat → Int64) (LM8 : Nat → Int64) (LM9 : Nat → Int64) (LM10 : Nat → Int64) (LM11 : Nat → Int64) (LM12 : Nat → Int64) (LM13 : Nat → Int64) (LM14 : Nat → Int64) (LM15 : Nat → Int64) (IM0 : Nat → Int32) (IM1 : Nat → Int32) (IM2 : Nat → Int32) (IM3 : Nat → Int32) (x1 : Int64) (x3 : Int32) (x4 : Int64) (m1 : VM1 ≤ 8) (m2 : VM2 ≤ 8) (m3 : VM3 ≤ 6) (m4 : VM4 ≤ 4) (mk4 : ∀ i, NM0 i < 4) (mcw : ∀ i, NM1 i < 12) (mfw : ∀ i, NM2 i < 12) (msb : ∀ i, i < 4 → ¬ LM5 i = 0) (m5 : VM5 ≤ 2) : hh_Ci l y_Model_fill u_Model_fill ({ frames := 1, cells := 0, slots := 0, locals := 25 }) (dC, dI) vwCl [(cI, .int), (cJ, .long), (cZ, .boolean)] (w_M cI cJ cZ aM VM0 VM1 VM2 VM3 VM4 VM5 WM0 NM0 NM1 NM2 LM0 LM1 LM2 LM3 LM4 LM5 LM6 LM7 LM8 LM9 LM10 LM11 LM12 LM13 LM14 LM15 IM0 IM1 IM2 IM3) sz [.ref (aM 0), .long x1, .int x3, .long x4] ((f_Model_fill VM2 VM5 NM2 LM2 LM3 x1 x3 x4).1) (w_M cI cJ cZ aM ((f_Model_fill VM2 VM5 NM2 LM2 LM3 x1 x3 x4).2.1) VM1 ((f_Model_fill VM2 VM5 NM2 LM2 LM3 x1 x3 x4).2.2.1) VM3 VM4 ((f_Model_fill VM2 VM5 NM2 LM2 LM3 x1 x3 x4).2.2.2.1) WM0 NM0 NM1 ((f_Model_fill VM2 VM5 NM2 LM2 LM3 x1 x3 x4).2.2.2.2.1) LM0 LM1 ((f_Model_fill VM2 VM5 NM2 LM2 LM3 x1 x3 x4).2.2.2.2.2.1) ((f_Model_fill VM2 VM5 NM2 LM2 LM3 x1 x3 x4).2.2.2.2.2.2) LM4 LM5 LM6 LM7 LM8 LM9 LM10 LM11 LM12 LM13 LM14 LM15 IM0 IM1 IM2 IM3) 0 0 := by
  unfold hh_Ci
  refine Met.ofW (cc := b_Model_fill) (maxL := 6) (ret := (some .int)) (by decide) rfl ?_
  intro p e s m args below meth c s₁ B hml hv
  obtain ⟨rfl, hsz, hP, hK, hD0⟩ := hv
  have hx := B.exec
  have hb := B.bytes
  have hr := B.returns
  have hts := atoms_spec (ws := u_Model_fill) B.pre
  have hG : ∀ w ∈ wG, w.before ([.ref (aM 0), .long x1, .int x3, .long x4]).toArray s = true := fun w h => hts w (List.mem_cons_of_mem _ h)
  have hown : s.vm.findClass R_Model = some m.cls := findClass_of_methodNamed B.named
  have hlocks := B.notSynchronized
  subst hsz
  have hD := hD0.self (sz := s.heap.size)
  generalize hAe : va_A (w_M cI cJ cZ aM VM0 VM1 VM2 VM3 VM4 VM5 WM0 NM0 NM1 NM2 LM0 LM1 LM2 LM3 LM4 LM5 LM6 LM7 LM8 LM9 LM10 LM11 LM12 LM13 LM14 LM15 IM0 IM1 IM2 IM3) s.heap.size = A at hD ⊢
  have hA : ∀ q : Nat, s.heap.size ≤ q → A q := fun q h => by rw [← hAe]; exact Or.inr h
  have hS : va_S A s.heap s.heap [] := va_S.rf
  have hl := lv_entry ([.ref (aM 0), .long x1, .int x3, .long x4]) (n := 6) (Nat.le_of_ble_eq_true rfl)
  rw [lg_entry_eq]
  generalize (lg_sl ([.ref (aM 0), .long x1, .int x3, .long x4]) ++ List.replicate (6 - (lg_sl ([.ref (aM 0), .long x1, .int x3, .long x4])).length) Slot.unset).toArray = ls at hl ⊢
  have hl : lv_has ls 6 [(0, .ref (aM 0)), (1, .long x1), (3, .int x3), (4, .long x4)] := hl
  generalize hR : f_Model_fill VM2 VM5 NM2 LM2 LM3 x1 x3 x4 = r0
  obtain ⟨H, locs, hHe, hle⟩ : ∃ (H : Heap) (locs : List Loc), s.heap = H ∧ [] = locs := ⟨_, _, rfl, rfl⟩
  have hP : va_P (dC, dI) vwCl (w_M cI cJ cZ aM VM0 VM1 VM2 VM3 VM4 VM5 WM0 NM0 NM1 NM2 LM0 LM1 LM2 LM3 LM4 LM5 LM6 LM7 LM8 LM9 LM10 LM11 LM12 LM13 LM14 LM15 IM0 IM1 IM2 IM3) H := by rw [← hHe]; exact hP
  have hS : va_S A s.heap H locs := by rw [← hHe, ← hle]; exact hS
  refine hw_start hHe hle ?_
  unfold f_Model_fill at hR
  refine lv_aload_n hx hb d_Model_fill_0 rfl (lv_at hl 0 rfl) ?_
  refine lv_iconst (v := nI 0) hx hb d_Model_fill_1 (by decide) ?_
  refine va_put (D := (dC, dI)) (ci := 5) (v := .int (nI 0)) (ty := .int) (C := R_Model) (T := T_Model) (N := 30) hx hb hG in_Model ty_Model tok_Model nok_Model hown hK hP hD hS 0 rfl rfl 0 (by decide) (hG _ m_614) (fun _ h9 => h9) rfl (by decide +kernel) rfl rfl (Nat.le_of_ble_eq_true rfl) d_Model_fill_2 (fun H locs hP hD hS => ?_)
  have hP : va_P (dC, dI) vwCl (w_M cI cJ cZ aM 0 VM1 VM2 VM3 VM4 VM5 WM0 NM0 NM1 NM2 LM0 LM1 LM2 LM3 LM4 LM5 LM6 LM7 LM8 LM9 LM10 LM11 LM12 LM13 LM14 LM15 IM0 IM1 IM2 IM3) H := hP
  have hD : va_D A (w_M cI cJ cZ aM 0 VM1 VM2 VM3 VM4 VM5 WM0 NM0 NM1 NM2 LM0 LM1 LM2 LM3 LM4 LM5 LM6 LM7 LM8 LM9 LM10 LM11 LM12 LM13 LM14 LM15 IM0 IM1 IM2 IM3) := hD
  refine lv_lload_n hx hb d_Model_fill_5 rfl (lv_at hl 1 rfl) ?_
  refine lv_lconst (v := 1) hx hb d_Model_fill_6 (by decide) ?_
  refine lv_ldc2 (v := 1000000) hx hb hown (hG _ m_713) d_Model_fill_7 ?_
  obtain ⟨y10, hy10, hR⟩ := hw_bind hR
  have hM := c_Model_isIn l dC dI cI cJ cZ H.size x1 1 1000000
  rw [hy10] at hM
  refine hw_callSi (As := [.long x1, .long 1, .long 1000000]) (rest := []) (wr := w_M cI cJ cZ aM 0 VM1 VM2 VM3 VM4 VM5 WM0 NM0 NM1 NM2 LM0 LM1 LM2 LM3 LM4 LM5 LM6 LM7 LM8 LM9 LM10 LM11 LM12 LM13 LM14 LM15 IM0 IM1 IM2 IM3) ⟨hx, hb, hml, hown, hG⟩ hM (hw_cwS 3 hG m_714 m_715 m_7 m_716 rfl rfl (by decide +kernel) ⟨Nat.le_of_ble_eq_true rfl, Nat.le_of_ble_eq_true rfl⟩) hK hP hD hS hA [] [0, 1, 2, 3, 4, 5, 6, 7, 8, 9, 10, 11, 12, 13, 14, 15, 16, 17, 18, 19, 20, 21, 22, 23] rfl rfl (by decide) (by decide) (by decide) rfl hl.1 rfl (Nat.le_of_ble_eq_true rfl) d_Model_fill_10 ⟨Nat.le_of_ble_eq_true rfl, Nat.le_of_ble_eq_true rfl⟩ (fun H locs hP hD hS => ?_)
  have hP : va_P (dC, dI) vwCl (w_M cI cJ cZ aM 0 VM1 VM2 VM3 VM4 VM5 WM0 NM0 NM1 NM2 LM0 LM1 LM2 LM3 LM4 LM5 LM6 LM7 LM8 LM9 LM10 LM11 LM12 LM13 LM14 LM15 IM0 IM1 IM2 IM3) H := hP
  have hD : va_D A (w_M cI cJ cZ aM 0 VM1 VM2 VM3 VM4 VM5 WM0 NM0 NM1 NM2 LM0 LM1 LM2 LM3 LM4 LM5 LM6 LM7 LM8 LM9 LM10 LM11 LM12 LM13 LM14 LM15 IM0 IM1 IM2 IM3) := hD
  refine lv_if_eq (tgt := 49) hx hb d_Model_fill_13 (by decide) (fun c13 => ?_) (fun c13 => ?_)
  · replace hR := (if_pos c13).symm.trans hR
    refine lv_iconst (v := (-1)) hx hb d_Model_fill_49 (by decide) ?_
    subst hR
    exact W.iret (v := (-1)) hx hb hr (fun t ht hW => ⟨⟨_, (), rfl, rfl, by rw [ht]; exact hP, va_K.moved hW.alike hK, hD⟩, hS.F ht⟩) hS.2.2 d_Model_fill_50
  · replace hR := (if_neg c13).symm.trans hR
    refine lv_iload_n hx hb d_Model_fill_16 rfl (lv_at hl 2 rfl) ?_
    refine lv_i2l (v := x3.toInt64) hx hb d_Model_fill_17 rfl ?_
    refine lv_lconst (v := 0) hx hb d_Model_fill_18 (by decide) ?_
    refine lv_ldc2 (v := 11) hx hb hown (hG _ m_718) d_Model_fill_19 ?_
    obtain ⟨y22, hy22, hR⟩ := hw_bind hR
    have hM := c_Model_isIn l dC dI cI cJ cZ H.size x3.toInt64 0 11
    rw [hy22] at hM
    refine hw_callSi (As := [.long x3.toInt64, .long 0, .long 11]) (rest := []) (wr := w_M cI cJ cZ aM 0 VM1 VM2 VM3 VM4 VM5 WM0 NM0 NM1 NM2 LM0 LM1 LM2 LM3 LM4 LM5 LM6 LM7 LM8 LM9 LM10 LM11 LM12 LM13 LM14 LM15 IM0 IM1 IM2 IM3) ⟨hx, hb, hml, hown, hG⟩ hM (hw_cwS 3 hG m_714 m_715 m_7 m_716 rfl rfl (by decide +kernel) ⟨Nat.le_of_ble_eq_true rfl, Nat.le_of_ble_eq_true rfl⟩) hK hP hD hS hA [] [0, 1, 2, 3, 4, 5, 6, 7, 8, 9, 10, 11, 12, 13, 14, 15, 16, 17, 18, 19, 20, 21, 22, 23] rfl rfl (by decide) (by decide) (by decide) rfl hl.1 rfl (Nat.le_of_ble_eq_true rfl) d_Model_fill_22 ⟨Nat.le_of_ble_eq_true rfl, Nat.le_of_ble_eq_true rfl⟩ (fun H locs hP hD hS => ?_)
    have hP : va_P (dC, dI) vwCl (w_M cI cJ cZ aM 0 VM1 VM2 VM3 VM4 VM5 WM0 NM0 NM1 NM2 LM0 LM1 LM2 LM3 LM4 LM5 LM6 LM7 LM8 LM9 LM10 LM11 LM12 LM13 LM14 LM15 IM0 IM1 IM2 IM3) H := hP
    have hD : va_D A (w_M cI cJ cZ aM 0 VM1 VM2 VM3 VM4 VM5 WM0 NM0 NM1 NM2 LM0 LM1 LM2 LM3 LM4 LM5 LM6 LM7 LM8 LM9 LM10 LM11 LM12 LM13 LM14 LM15 IM0 IM1 IM2 IM3) := hD
    have hbl22 := hm_in (x := x3) (n := 12) (hi := 11) (by decide)
    rw [hy22] at hbl22
    refine lv_if_eq (tgt := 49) hx hb d_Model_fill_25 (by decide) (fun c25 => ?_) (fun c25 => ?_)
    · replace hR := (if_pos c25).symm.trans hR
      refine lv_iconst (v := (-1)) hx hb d_Model_fill_49 (by decide) ?_
      subst hR
      exact W.iret (v := (-1)) hx hb hr (fun t ht hW => ⟨⟨_, (), rfl, rfl, by rw [ht]; exact hP, va_K.moved hW.alike hK, hD⟩, hS.F ht⟩) hS.2.2 d_Model_fill_50
    · replace hR := (if_neg c25).symm.trans hR
      refine lv_lload hx hb d_Model_fill_28 (lv_at hl 3 rfl) ?_
      refine lv_lconst (v := 0) hx hb d_Model_fill_30 (by decide) ?_
      refine lv_ldc2 (v := 100000) hx hb hown (hG _ m_719) d_Model_fill_31 ?_
      obtain ⟨y34, hy34, hR⟩ := hw_bind hR
      have hM := c_Model_isIn l dC dI cI cJ cZ H.size x4 0 100000
      rw [hy34] at hM
      refine hw_callSi (As := [.long x4, .long 0, .long 100000]) (rest := []) (wr := w_M cI cJ cZ aM 0 VM1 VM2 VM3 VM4 VM5 WM0 NM0 NM1 NM2 LM0 LM1 LM2 LM3 LM4 LM5 LM6 LM7 LM8 LM9 LM10 LM11 LM12 LM13 LM14 LM15 IM0 IM1 IM2 IM3) ⟨hx, hb, hml, hown, hG⟩ hM (hw_cwS 3 hG m_714 m_715 m_7 m_716 rfl rfl (by decide +kernel) ⟨Nat.le_of_ble_eq_true rfl, Nat.le_of_ble_eq_true rfl⟩) hK hP hD hS hA [] [0, 1, 2, 3, 4, 5, 6, 7, 8, 9, 10, 11, 12, 13, 14, 15, 16, 17, 18, 19, 20, 21, 22, 23] rfl rfl (by decide) (by decide) (by decide) rfl hl.1 rfl (Nat.le_of_ble_eq_true rfl) d_Model_fill_34 ⟨Nat.le_of_ble_eq_true rfl, Nat.le_of_ble_eq_true rfl⟩ (fun H locs hP hD hS => ?_)
      have hP : va_P (dC, dI) vwCl (w_M cI cJ cZ aM 0 VM1 VM2 VM3 VM4 VM5 WM0 NM0 NM1 NM2 LM0 LM1 LM2 LM3 LM4 LM5 LM6 LM7 LM8 LM9 LM10 LM11 LM12 LM13 LM14 LM15 IM0 IM1 IM2 IM3) H := hP
      have hD : va_D A (w_M cI cJ cZ aM 0 VM1 VM2 VM3 VM4 VM5 WM0 NM0 NM1 NM2 LM0 LM1 LM2 LM3 LM4 LM5 LM6 LM7 LM8 LM9 LM10 LM11 LM12 LM13 LM14 LM15 IM0 IM1 IM2 IM3) := hD
      refine lv_if_eq (tgt := 49) hx hb d_Model_fill_37 (by decide) (fun c37 => ?_) (fun c37 => ?_)
      · replace hR := (if_pos c37).symm.trans hR
        refine lv_iconst (v := (-1)) hx hb d_Model_fill_49 (by decide) ?_
        subst hR
        exact W.iret (v := (-1)) hx hb hr (fun t ht hW => ⟨⟨_, (), rfl, rfl, by rw [ht]; exact hP, va_K.moved hW.alike hK, hD⟩, hS.F ht⟩) hS.2.2 d_Model_fill_50
      · replace hR := (if_neg c37).symm.trans hR
        refine lv_aload_n hx hb d_Model_fill_40 rfl (lv_at hl 0 rfl) ?_
        refine va_get (D := (dC, dI)) (ci := 5) (v := .int (nI VM2)) (C := R_Model) (T := T_Model) (N := 30) hx hb hG in_Model hown hK hP 0 rfl rfl 6 (by decide) (hG _ m_620) (fun _ h9 => h9) rfl d_Model_fill_41 ?_
        refine lv_bipush (v := nI 8) hx hb d_Model_fill_44 (by decide) ?_
        refine hw_icmp_ne (tgt := 51) hx hb d_Model_fill_46 (by decide) (by omega) (by omega) (fun c46 => ?_) (fun c46 => ?_)
        · replace hR := (if_neg c46).symm.trans hR
          obtain ⟨hna3, hnb3⟩ := hbl22 c25
          have en51_3 : nI (x3.toNatClampNeg) = x3 := hw_nat hna3
          have hl : lv_has ls 6 [(0, .ref (aM 0)), (1, .long x1), (3, .int (nI x3.toNatClampNeg)), (4, .long x4)] := by rw [en51_3]; exact hl
          refine lv_aload_n hx hb d_Model_fill_51 rfl (lv_at hl 0 rfl) ?_
          refine va_get (D := (dC, dI)) (ci := 5) (v := .ref (aM 5)) (C := R_Model) (T := T_Model) (N := 30) hx hb hG in_Model hown hK hP 0 rfl rfl 7 (by decide) (hG _ m_621) (fun _ h9 => h9) rfl d_Model_fill_52 ?_
          refine lv_aload_n hx hb d_Model_fill_55 rfl (lv_at hl 0 rfl) ?_
          refine va_get (D := (dC, dI)) (ci := 5) (v := .int (nI VM2)) (C := R_Model) (T := T_Model) (N := 30) hx hb hG in_Model hown hK hP 0 rfl rfl 6 (by decide) (hG _ m_620) (fun _ h9 => h9) rfl d_Model_fill_56 ?_
          refine lv_lload_n hx hb d_Model_fill_59 rfl (lv_at hl 1 rfl) ?_
          refine hw_last (f := LM2) hx hb hK hP hD hS 5 1 rfl rfl (by decide) (by omega) d_Model_fill_60 (fun H locs hP hD hS => ?_)
          have hP : va_P (dC, dI) vwCl (w_M cI cJ cZ aM 0 VM1 VM2 VM3 VM4 VM5 WM0 NM0 NM1 NM2 LM0 LM1 (vp_updL LM2 VM2 x1) LM3 LM4 LM5 LM6 LM7 LM8 LM9 LM10 LM11 LM12 LM13 LM14 LM15 IM0 IM1 IM2 IM3) H := hP
          have hD : va_D A (w_M cI cJ cZ aM 0 VM1 VM2 VM3 VM4 VM5 WM0 NM0 NM1 NM2 LM0 LM1 (vp_updL LM2 VM2 x1) LM3 LM4 LM5 LM6 LM7 LM8 LM9 LM10 LM11 LM12 LM13 LM14 LM15 IM0 IM1 IM2 IM3) := hD
          refine lv_aload_n hx hb d_Model_fill_61 rfl (lv_at hl 0 rfl) ?_
          refine va_get (D := (dC, dI)) (ci := 5) (v := .ref (aM 6)) (C := R_Model) (T := T_Model) (N := 30) hx hb hG in_Model hown hK hP 0 rfl rfl 8 (by decide) (hG _ m_622) (fun _ h9 => h9) rfl d_Model_fill_62 ?_
          refine lv_aload_n hx hb d_Model_fill_65 rfl (lv_at hl 0 rfl) ?_
          refine va_get (D := (dC, dI)) (ci := 5) (v := .int (nI VM2)) (C := R_Model) (T := T_Model) (N := 30) hx hb hG in_Model hown hK hP 0 rfl rfl 6 (by decide) (hG _ m_620) (fun _ h9 => h9) rfl d_Model_fill_66 ?_
          refine lv_iload_n hx hb d_Model_fill_69 rfl (lv_at hl 2 rfl) ?_
          refine hw_nast (g := NM2) hx hb hK hP hD hS 6 0 rfl rfl (by decide) (by omega) d_Model_fill_70 (fun H locs hP hD hS => ?_)
          have hP : va_P (dC, dI) vwCl (w_M cI cJ cZ aM 0 VM1 VM2 VM3 VM4 VM5 WM0 NM0 NM1 (va_up NM2 VM2 x3.toNatClampNeg) LM0 LM1 (vp_updL LM2 VM2 x1) LM3 LM4 LM5 LM6 LM7 LM8 LM9 LM10 LM11 LM12 LM13 LM14 LM15 IM0 IM1 IM2 IM3) H := hP
          have hD : va_D A (w_M cI cJ cZ aM 0 VM1 VM2 VM3 VM4 VM5 WM0 NM0 NM1 (va_up NM2 VM2 x3.toNatClampNeg) LM0 LM1 (vp_updL LM2 VM2 x1) LM3 LM4 LM5 LM6 LM7 LM8 LM9 LM10 LM11 LM12 LM13 LM14 LM15 IM0 IM1 IM2 IM3) := hD
          refine lv_aload_n hx hb d_Model_fill_71 rfl (lv_at hl 0 rfl) ?_
          refine va_get (D := (dC, dI)) (ci := 5) (v := .ref (aM 7)) (C := R_Model) (T := T_Model) (N := 30) hx hb hG in_Model hown hK hP 0 rfl rfl 9 (by decide) (hG _ m_623) (fun _ h9 => h9) rfl d_Model_fill_72 ?_
          refine lv_aload_n hx hb d_Model_fill_75 rfl (lv_at hl 0 rfl) ?_
          refine va_get (D := (dC, dI)) (ci := 5) (v := .int (nI VM2)) (C := R_Model) (T := T_Model) (N := 30) hx hb hG in_Model hown hK hP 0 rfl rfl 6 (by decide) (hG _ m_620) (fun _ h9 => h9) rfl d_Model_fill_76 ?_
          refine lv_lload hx hb d_Model_fill_79 (lv_at hl 3 rfl) ?_
          refine hw_last (f := LM3) hx hb hK hP hD hS 7 1 rfl rfl (by decide) (by omega) d_Model_fill_81 (fun H locs hP hD hS => ?_)
          have hP : va_P (dC, dI) vwCl (w_M cI cJ cZ aM 0 VM1 VM2 VM3 VM4 VM5 WM0 NM0 NM1 (va_up NM2 VM2 x3.toNatClampNeg) LM0 LM1 (vp_updL LM2 VM2 x1) (vp_updL LM3 VM2 x4) LM4 LM5 LM6 LM7 LM8 LM9 LM10 LM11 LM12 LM13 LM14 LM15 IM0 IM1 IM2 IM3) H := hP
          have hD : va_D A (w_M cI cJ cZ aM 0 VM1 VM2 VM3 VM4 VM5 WM0 NM0 NM1 (va_up NM2 VM2 x3.toNatClampNeg) LM0 LM1 (vp_updL LM2 VM2 x1) (vp_updL LM3 VM2 x4) LM4 LM5 LM6 LM7 LM8 LM9 LM10 LM11 LM12 LM13 LM14 LM15 IM0 IM1 IM2 IM3) := hD
          refine lv_aload_n hx hb d_Model_fill_82 rfl (lv_at hl 0 rfl) ?_
          refine lv_dup hx hb d_Model_fill_83 rfl ?_
          refine va_get (D := (dC, dI)) (ci := 5) (v := .int (nI VM2)) (C := R_Model) (T := T_Model) (N := 30) hx hb hG in_Model hown hK hP 0 rfl rfl 6 (by decide) (hG _ m_620) (fun _ h9 => h9) rfl d_Model_fill_84 ?_
          refine lv_iconst (v := nI 1) hx hb d_Model_fill_87 (by decide) ?_
          refine hw_iadd hx hb d_Model_fill_88 ?_
          refine va_put (D := (dC, dI)) (ci := 5) (v := .int (nI (VM2 + 1))) (ty := .int) (C := R_Model) (T := T_Model) (N := 30) hx hb hG in_Model ty_Model tok_Model nok_Model hown hK hP hD hS 0 rfl rfl 6 (by decide) (hG _ m_620) (fun _ h9 => h9) rfl (by decide +kernel) rfl rfl (Nat.le_of_ble_eq_true rfl) d_Model_fill_89 (fun H locs hP hD hS => ?_)
          have hP : va_P (dC, dI) vwCl (w_M cI cJ cZ aM 0 VM1 (VM2 + 1) VM3 VM4 VM5 WM0 NM0 NM1 (va_up NM2 VM2 x3.toNatClampNeg) LM0 LM1 (vp_updL LM2 VM2 x1) (vp_updL LM3 VM2 x4) LM4 LM5 LM6 LM7 LM8 LM9 LM10 LM11 LM12 LM13 LM14 LM15 IM0 IM1 IM2 IM3) H := hP
          have hD : va_D A (w_M cI cJ cZ aM 0 VM1 (VM2 + 1) VM3 VM4 VM5 WM0 NM0 NM1 (va_up NM2 VM2 x3.toNatClampNeg) LM0 LM1 (vp_updL LM2 VM2 x1) (vp_updL LM3 VM2 x4) LM4 LM5 LM6 LM7 LM8 LM9 LM10 LM11 LM12 LM13 LM14 LM15 IM0 IM1 IM2 IM3) := hD
          refine lv_aload_n hx hb d_Model_fill_92 rfl (lv_at hl 0 rfl) ?_
          refine lv_iconst (v := nI 0) hx hb d_Model_fill_93 (by decide) ?_
          refine va_put (D := (dC, dI)) (ci := 5) (v := .int (nI 0)) (ty := .int) (C := R_Model) (T := T_Model) (N := 30) hx hb hG in_Model ty_Model tok_Model nok_Model hown hK hP hD hS 0 rfl rfl 22 (by decide) (hG _ m_636) (fun _ h9 => h9) rfl (by decide +kernel) rfl rfl (Nat.le_of_ble_eq_true rfl) d_Model_fill_94 (fun H locs hP hD hS => ?_)
          have hP : va_P (dC, dI) vwCl (w_M cI cJ cZ aM 0 VM1 (VM2 + 1) VM3 VM4 0 WM0 NM0 NM1 (va_up NM2 VM2 x3.toNatClampNeg) LM0 LM1 (vp_updL LM2 VM2 x1) (vp_updL LM3 VM2 x4) LM4 LM5 LM6 LM7 LM8 LM9 LM10 LM11 LM12 LM13 LM14 LM15 IM0 IM1 IM2 IM3) H := hP
          have hD : va_D A (w_M cI cJ cZ aM 0 VM1 (VM2 + 1) VM3 VM4 0 WM0 NM0 NM1 (va_up NM2 VM2 x3.toNatClampNeg) LM0 LM1 (vp_updL LM2 VM2 x1) (vp_updL LM3 VM2 x4) LM4 LM5 LM6 LM7 LM8 LM9 LM10 LM11 LM12 LM13 LM14 LM15 IM0 IM1 IM2 IM3) := hD
          refine lv_aload_n hx hb d_Model_fill_97 rfl (lv_at hl 0 rfl) ?_
          refine va_get (D := (dC, dI)) (ci := 5) (v := .int (nI (VM2 + 1))) (C := R_Model) (T := T_Model) (N := 30) hx hb hG in_Model hown hK hP 0 rfl rfl 6 (by decide) (hG _ m_620) (fun _ h9 => h9) rfl d_Model_fill_98 ?_
          refine lv_iconst (v := nI 1) hx hb d_Model_fill_101 (by decide) ?_
          refine hw_isub hx hb d_Model_fill_102 (by omega) ?_
          subst hR
          exact W.iret (v := nI ((VM2 + 1) - 1)) hx hb hr (fun t ht hW => ⟨⟨_, (), rfl, rfl, by rw [ht]; exact hP, va_K.moved hW.alike hK, hD⟩, hS.F ht⟩) hS.2.2 d_Model_fill_103
        · replace hR := (if_pos c46).symm.trans hR
          refine lv_iconst (v := (-1)) hx hb d_Model_fill_49 (by decide) ?_
          subst hR
          exact W.iret (v := (-1)) hx hb hr (fun t ht hW => ⟨⟨_, (), rfl, rfl, by rw [ht]; exact hP, va_K.moved hW.alike hK, hD⟩, hS.F ht⟩) hS.2.2 d_Model_fill_50
def f_Model_swell (VM5 : Nat) (LM4 : Nat → Int64) (LM5 : Nat → Int64) (x1 : Int32) (x2 : Int64) (x4 : Int64) : Int32 × (Nat) × (Nat) × (Nat → Int64) × (Nat → Int64) :=
  hh_bind (f_Model_isIn x1.toInt64 0 3) (fun y11 => if y11 = 0 then (nI 0, 0, VM5, LM4, LM5) else (hh_bind (f_Model_isIn x2 1 1000) (fun y22 => if y22 = 0 then (nI 0, 0, VM5, LM4, LM5) else (hh_bind (f_Model_isIn x4 1 1000) (fun y34 => if y34 = 0 then (nI 0, 0, VM5, LM4, LM5) else (nI 1, 0, 0, vp_updL LM4 x1.toNatClampNeg x2, vp_updL LM5 x1.toNatClampNeg x4))))))
set_option maxHeartbeats 4000000 in
set_option maxRecDepth 100000 in
theorem c_Model_swell (l : Launch) (dC : Nat → ClassId) (dI : Nat → Nat → Nat) (cI cJ cZ : ClassId) (sz : Nat) (aM : Nat → Nat) (VM0 : Nat) (VM1 : Nat) (VM2 : Nat) (VM3 : Nat) (VM4 : Nat) (VM5 : Nat) (WM0 : Int64) (NM0 : Nat → Nat) (NM1 : Nat → Nat) (NM2 : Nat → Nat) (LM0 : Nat → Int64) (LM1 : Nat → Int64) (LM2 : Nat → Int64) (LM3 : Nat → Int64) (LM4 : Nat → Int64) (LM5 : Nat → Int64) (LM6 : Nat → Int64) (LM7 : Nat → Int64) (LM8 : Nat → Int64) (LM9 : Nat → Int64) (LM10 : Nat → Int64) (LM11 : Nat → Int64) (LM12 : Nat → Int64) (LM13 : Nat → Int64) (LM14 : Nat → Int64) (LM15 : Nat → Int64) (IM0 : Nat → Int32) (IM1 : Nat → Int32) (IM2 : Nat → Int32) (IM3 : Nat → Int32) (x1 : Int32) (x2 : Int64) (x4 : Int64) (m1 : VM1 ≤ 8) (m2 : VM2 ≤ 8) (m3 : VM3 ≤ 6) (m4 : VM4 ≤ 4) (mk4 : ∀ i, NM0 i < 4) (mcw : ∀ i, NM1 i < 12) (mfw : ∀ i, NM2 i < 12) (msb : ∀ i, i < 4 → ¬ LM5 i = 0) (m5 : VM5 ≤ 2) : hh_Ci l y_Model_swell u_Model_swell ({ frames := 1, cells := 0, slots := 0, locals := 25 }) (dC, dI) vwCl [(cI, .int), (cJ, .long), (cZ, .boolean)] (w_M cI cJ cZ aM VM0 VM1 VM2 VM3 VM4 VM5 WM0 NM0 NM1 NM2 LM0 LM1 LM2 LM3 LM4 LM5 LM6 LM7 LM8 LM9 LM10 LM11 LM12 LM13 LM14 LM15 IM0 IM1 IM2 IM3) sz [.ref (aM 0), .int x1, .long x2, .long x4] ((f_Model_swell VM5 LM4 LM5 x1 x2 x4).1) (w_M cI cJ cZ aM ((f_Model_swell VM5 LM4 LM5 x1 x2 x4).2.1) VM1 VM2 VM3 VM4 ((f_Model_swell VM5 LM4 LM5 x1 x2 x4).2.2.1) WM0 NM0 NM1 NM2 LM0 LM1 LM2 LM3 ((f_Model_swell VM5 LM4 LM5 x1 x2 x4).2.2.2.1) ((f_Model_swell VM5 LM4 LM5 x1 x2 x4).2.2.2.2) LM6 LM7 LM8 LM9 LM10 LM11 LM12 LM13 LM14 LM15 IM0 IM1 IM2 IM3) 0 0 := by
  unfold hh_Ci
  refine Met.ofW (cc := b_Model_swell) (maxL := 6) (ret := (some .boolean)) (by decide) rfl ?_
  intro p e s m args below meth c s₁ B hml hv
  obtain ⟨rfl, hsz, hP, hK, hD0⟩ := hv
  have hx := B.exec
  have hb := B.bytes
  have hr := B.returns
  have hts := atoms_spec (ws := u_Model_swell) B.pre
  have hG : ∀ w ∈ wG, w.before ([.ref (aM 0), .int x1, .long x2, .long x4]).toArray s = true := fun w h => hts w (List.mem_cons_of_mem _ h)
  have hown : s.vm.findClass R_Model = some m.cls := findClass_of_methodNamed B.named
  have hlocks := B.notSynchronized
  subst hsz
  have hD := hD0.self (sz := s.heap.size)
  generalize hAe : va_A (w_M cI cJ cZ aM VM0 VM1 VM2 VM3 VM4 VM5 WM0 NM0 NM1 NM2 LM0 LM1 LM2 LM3 LM4 LM5 LM6 LM7 LM8 LM9 LM10 LM11 LM12 LM13 LM14 LM15 IM0 IM1 IM2 IM3) s.heap.size = A at hD ⊢
  have hA : ∀ q : Nat, s.heap.size ≤ q → A q := fun q h => by rw [← hAe]; exact Or.inr h
  have hS : va_S A s.heap s.heap [] := va_S.rf
  have hl := lv_entry ([.ref (aM 0), .int x1, .long x2, .long x4]) (n := 6) (Nat.le_of_ble_eq_true rfl)
  rw [lg_entry_eq]
  generalize (lg_sl ([.ref (aM 0), .int x1, .long x2, .long x4]) ++ List.replicate (6 - (lg_sl ([.ref (aM 0), .int x1, .long x2, .long x4])).length) Slot.unset).toArray = ls at hl ⊢
  have hl : lv_has ls 6 [(0, .ref (aM 0)), (1, .int x1), (2, .long x2), (4, .long x4)] := hl
  generalize hR : f_Model_swell VM5 LM4 LM5 x1 x2 x4 = r0
  obtain ⟨H, locs, hHe, hle⟩ : ∃ (H : Heap) (locs : List Loc), s.heap = H ∧ [] = locs := ⟨_, _, rfl, rfl⟩
  have hP : va_P (dC, dI) vwCl (w_M cI cJ cZ aM VM0 VM1 VM2 VM3 VM4 VM5 WM0 NM0 NM1 NM2 LM0 LM1 LM2 LM3 LM4 LM5 LM6 LM7 LM8 LM9 LM10 LM11 LM12 LM13 LM14 LM15 IM0 IM1 IM2 IM3) H := by rw [← hHe]; exact hP
  have hS : va_S A s.heap H locs := by rw [← hHe, ← hle]; exact hS
  refine hw_start hHe hle ?_
  unfold f_Model_swell at hR
  refine lv_aload_n hx hb d_Model_swell_0 rfl (lv_at hl 0 rfl) ?_
  refine lv_iconst (v := nI 0) hx hb d_Model_swell_1 (by decide) ?_
  refine va_put (D := (dC, dI)) (ci := 5) (v := .int (nI 0)) (ty := .int) (C := R_Model) (T := T_Model) (N := 30) hx hb hG in_Model ty_Model tok_Model nok_Model hown hK hP hD hS 0 rfl rfl 0 (by decide) (hG _ m_614) (fun _ h9 => h9) rfl (by decide +kernel) rfl rfl (Nat.le_of_ble_eq_true rfl) d_Model_swell_2 (fun H locs hP hD hS => ?_)
  have hP : va_P (dC, dI) vwCl (w_M cI cJ cZ aM 0 VM1 VM2 VM3 VM4 VM5 WM0 NM0 NM1 NM2 LM0 LM1 LM2 LM3 LM4 LM5 LM6 LM7 LM8 LM9 LM10 LM11 LM12 LM13 LM14 LM15 IM0 IM1 IM2 IM3) H := hP
  have hD : va_D A (w_M cI cJ cZ aM 0 VM1 VM2 VM3 VM4 VM5 WM0 NM0 NM1 NM2 LM0 LM1 LM2 LM3 LM4 LM5 LM6 LM7 LM8 LM9 LM10 LM11 LM12 LM13 LM14 LM15 IM0 IM1 IM2 IM3) := hD
  refine lv_iload_n hx hb d_Model_swell_5 rfl (lv_at hl 1 rfl) ?_
  refine lv_i2l (v := x1.toInt64) hx hb d_Model_swell_6 rfl ?_
  refine lv_lconst (v := 0) hx hb d_Model_swell_7 (by decide) ?_
  refine lv_ldc2 (v := 3) hx hb hown (hG _ m_717) d_Model_swell_8 ?_
  obtain ⟨y11, hy11, hR⟩ := hw_bind hR
  have hM := c_Model_isIn l dC dI cI cJ cZ H.size x1.toInt64 0 3
  rw [hy11] at hM
  refine hw_callSi (As := [.long x1.toInt64, .long 0, .long 3]) (rest := []) (wr := w_M cI cJ cZ aM 0 VM1 VM2 VM3 VM4 VM5 WM0 NM0 NM1 NM2 LM0 LM1 LM2 LM3 LM4 LM5 LM6 LM7 LM8 LM9 LM10 LM11 LM12 LM13 LM14 LM15 IM0 IM1 IM2 IM3) ⟨hx, hb, hml, hown, hG⟩ hM (hw_cwS 3 hG m_714 m_715 m_7 m_716 rfl rfl (by decide +kernel) ⟨Nat.le_of_ble_eq_true rfl, Nat.le_of_ble_eq_true rfl⟩) hK hP hD hS hA [] [0, 1, 2, 3, 4, 5, 6, 7, 8, 9, 10, 11, 12, 13, 14, 15, 16, 17, 18, 19, 20, 21, 22, 23] rfl rfl (by decide) (by decide) (by decide) rfl hl.1 rfl (Nat.le_of_ble_eq_true rfl) d_Model_swell_11 ⟨Nat.le_of_ble_eq_true rfl, Nat.le_of_ble_eq_true rfl⟩ (fun H locs hP hD hS => ?_)
  have hP : va_P (dC, dI) vwCl (w_M cI cJ cZ aM 0 VM1 VM2 VM3 VM4 VM5 WM0 NM0 NM1 NM2 LM0 LM1 LM2 LM3 LM4 LM5 LM6 LM7 LM8 LM9 LM10 LM11 LM12 LM13 LM14 LM15 IM0 IM1 IM2 IM3) H := hP
  have hD : va_D A (w_M cI cJ cZ aM 0 VM1 VM2 VM3 VM4 VM5 WM0 NM0 NM1 NM2 LM0 LM1 LM2 LM3 LM4 LM5 LM6 LM7 LM8 LM9 LM10 LM11 LM12 LM13 LM14 LM15 IM0 IM1 IM2 IM3) := hD
  have hbl11 := hm_in (x := x1) (n := 4) (hi := 3) (by decide)
  rw [hy11] at hbl11
  refine lv_if_eq (tgt := 40) hx hb d_Model_swell_14 (by decide) (fun c14 => ?_) (fun c14 => ?_)
  · replace hR := (if_pos c14).symm.trans hR
    refine lv_iconst (v := nI 0) hx hb d_Model_swell_40 (by decide) ?_
    subst hR
    exact W.zret (v := nI 0) hx hb hr (by decide) (fun t ht hW => ⟨⟨_, (), rfl, rfl, by rw [ht]; exact hP, va_K.moved hW.alike hK, hD⟩, hS.F ht⟩) hS.2.2 d_Model_swell_41
  · replace hR := (if_neg c14).symm.trans hR
    refine lv_lload_n hx hb d_Model_swell_17 rfl (lv_at hl 2 rfl) ?_
    refine lv_lconst (v := 1) hx hb d_Model_swell_18 (by decide) ?_
    refine lv_ldc2 (v := 1000) hx hb hown (hG _ m_728) d_Model_swell_19 ?_
    obtain ⟨y22, hy22, hR⟩ := hw_bind hR
    have hM := c_Model_isIn l dC dI cI cJ cZ H.size x2 1 1000
    rw [hy22] at hM
    refine hw_callSi (As := [.long x2, .long 1, .long 1000]) (rest := []) (wr := w_M cI cJ cZ aM 0 VM1 VM2 VM3 VM4 VM5 WM0 NM0 NM1 NM2 LM0 LM1 LM2 LM3 LM4 LM5 LM6 LM7 LM8 LM9 LM10 LM11 LM12 LM13 LM14 LM15 IM0 IM1 IM2 IM3) ⟨hx, hb, hml, hown, hG⟩ hM (hw_cwS 3 hG m_714 m_715 m_7 m_716 rfl rfl (by decide +kernel) ⟨Nat.le_of_ble_eq_true rfl, Nat.le_of_ble_eq_true rfl⟩) hK hP hD hS hA [] [0, 1, 2, 3, 4, 5, 6, 7, 8, 9, 10, 11, 12, 13, 14, 15, 16, 17, 18, 19, 20, 21, 22, 23] rfl rfl (by decide) (by decide) (by decide) rfl hl.1 rfl (Nat.le_of_ble_eq_true rfl) d_Model_swell_22 ⟨Nat.le_of_ble_eq_true rfl, Nat.le_of_ble_eq_true rfl⟩ (fun H locs hP hD hS => ?_)
    have hP : va_P (dC, dI) vwCl (w_M cI cJ cZ aM 0 VM1 VM2 VM3 VM4 VM5 WM0 NM0 NM1 NM2 LM0 LM1 LM2 LM3 LM4 LM5 LM6 LM7 LM8 LM9 LM10 LM11 LM12 LM13 LM14 LM15 IM0 IM1 IM2 IM3) H := hP
    have hD : va_D A (w_M cI cJ cZ aM 0 VM1 VM2 VM3 VM4 VM5 WM0 NM0 NM1 NM2 LM0 LM1 LM2 LM3 LM4 LM5 LM6 LM7 LM8 LM9 LM10 LM11 LM12 LM13 LM14 LM15 IM0 IM1 IM2 IM3) := hD
    refine lv_if_eq (tgt := 40) hx hb d_Model_swell_25 (by decide) (fun c25 => ?_) (fun c25 => ?_)
    · replace hR := (if_pos c25).symm.trans hR
      refine lv_iconst (v := nI 0) hx hb d_Model_swell_40 (by decide) ?_
      subst hR
      exact W.zret (v := nI 0) hx hb hr (by decide) (fun t ht hW => ⟨⟨_, (), rfl, rfl, by rw [ht]; exact hP, va_K.moved hW.alike hK, hD⟩, hS.F ht⟩) hS.2.2 d_Model_swell_41
    · replace hR := (if_neg c25).symm.trans hR
      refine lv_lload hx hb d_Model_swell_28 (lv_at hl 3 rfl) ?_
      refine lv_lconst (v := 1) hx hb d_Model_swell_30 (by decide) ?_
      refine lv_ldc2 (v := 1000) hx hb hown (hG _ m_728) d_Model_swell_31 ?_
      obtain ⟨y34, hy34, hR⟩ := hw_bind hR
      have hM := c_Model_isIn l dC dI cI cJ cZ H.size x4 1 1000
      rw [hy34] at hM
      refine hw_callSi (As := [.long x4, .long 1, .long 1000]) (rest := []) (wr := w_M cI cJ cZ aM 0 VM1 VM2 VM3 VM4 VM5 WM0 NM0 NM1 NM2 LM0 LM1 LM2 LM3 LM4 LM5 LM6 LM7 LM8 LM9 LM10 LM11 LM12 LM13 LM14 LM15 IM0 IM1 IM2 IM3) ⟨hx, hb, hml, hown, hG⟩ hM (hw_cwS 3 hG m_714 m_715 m_7 m_716 rfl rfl (by decide +kernel) ⟨Nat.le_of_ble_eq_true rfl, Nat.le_of_ble_eq_true rfl⟩) hK hP hD hS hA [] [0, 1, 2, 3, 4, 5, 6, 7, 8, 9, 10, 11, 12, 13, 14, 15, 16, 17, 18, 19, 20, 21, 22, 23] rfl rfl (by decide) (by decide) (by decide) rfl hl.1 rfl (Nat.le_of_ble_eq_true rfl) d_Model_swell_34 ⟨Nat.le_of_ble_eq_true rfl, Nat.le_of_ble_eq_true rfl⟩ (fun H locs hP hD hS => ?_)
      have hP : va_P (dC, dI) vwCl (w_M cI cJ cZ aM 0 VM1 VM2 VM3 VM4 VM5 WM0 NM0 NM1 NM2 LM0 LM1 LM2 LM3 LM4 LM5 LM6 LM7 LM8 LM9 LM10 LM11 LM12 LM13 LM14 LM15 IM0 IM1 IM2 IM3) H := hP
      have hD : va_D A (w_M cI cJ cZ aM 0 VM1 VM2 VM3 VM4 VM5 WM0 NM0 NM1 NM2 LM0 LM1 LM2 LM3 LM4 LM5 LM6 LM7 LM8 LM9 LM10 LM11 LM12 LM13 LM14 LM15 IM0 IM1 IM2 IM3) := hD
      refine lv_if_ne (tgt := 42) hx hb d_Model_swell_37 (by decide) (fun c37 => ?_) (fun c37 => ?_)
      · replace hR := (if_neg c37).symm.trans hR
        obtain ⟨hna1, hnb1⟩ := hbl11 c14
        have en42_1 : nI (x1.toNatClampNeg) = x1 := hw_nat hna1
        have hl : lv_has ls 6 [(0, .ref (aM 0)), (1, .int (nI x1.toNatClampNeg)), (2, .long x2), (4, .long x4)] := by rw [en42_1]; exact hl
        refine lv_aload_n hx hb d_Model_swell_42 rfl (lv_at hl 0 rfl) ?_
        refine va_get (D := (dC, dI)) (ci := 5) (v := .ref (aM 9)) (C := R_Model) (T := T_Model) (N := 30) hx hb hG in_Model hown hK hP 0 rfl rfl 11 (by decide) (hG _ m_625) (fun _ h9 => h9) rfl d_Model_swell_43 ?_
        refine lv_iload_n hx hb d_Model_swell_46 rfl (lv_at hl 1 rfl) ?_
        refine lv_lload_n hx hb d_Model_swell_47 rfl (lv_at hl 2 rfl) ?_
        refine hw_last (f := LM4) hx hb hK hP hD hS 9 1 rfl rfl (by decide) (by omega) d_Model_swell_48 (fun H locs hP hD hS => ?_)
        have hP : va_P (dC, dI) vwCl (w_M cI cJ cZ aM 0 VM1 VM2 VM3 VM4 VM5 WM0 NM0 NM1 NM2 LM0 LM1 LM2 LM3 (vp_updL LM4 x1.toNatClampNeg x2) LM5 LM6 LM7 LM8 LM9 LM10 LM11 LM12 LM13 LM14 LM15 IM0 IM1 IM2 IM3) H := hP
        have hD : va_D A (w_M cI cJ cZ aM 0 VM1 VM2 VM3 VM4 VM5 WM0 NM0 NM1 NM2 LM0 LM1 LM2 LM3 (vp_updL LM4 x1.toNatClampNeg x2) LM5 LM6 LM7 LM8 LM9 LM10 LM11 LM12 LM13 LM14 LM15 IM0 IM1 IM2 IM3) := hD
        refine lv_aload_n hx hb d_Model_swell_49 rfl (lv_at hl 0 rfl) ?_
        refine va_get (D := (dC, dI)) (ci := 5) (v := .ref (aM 10)) (C := R_Model) (T := T_Model) (N := 30) hx hb hG in_Model hown hK hP 0 rfl rfl 12 (by decide) (hG _ m_626) (fun _ h9 => h9) rfl d_Model_swell_50 ?_
        refine lv_iload_n hx hb d_Model_swell_53 rfl (lv_at hl 1 rfl) ?_
        refine lv_lload hx hb d_Model_swell_54 (lv_at hl 3 rfl) ?_
        refine hw_last (f := LM5) hx hb hK hP hD hS 10 1 rfl rfl (by decide) (by omega) d_Model_swell_56 (fun H locs hP hD hS => ?_)
        have hP : va_P (dC, dI) vwCl (w_M cI cJ cZ aM 0 VM1 VM2 VM3 VM4 VM5 WM0 NM0 NM1 NM2 LM0 LM1 LM2 LM3 (vp_updL LM4 x1.toNatClampNeg x2) (vp_updL LM5 x1.toNatClampNeg x4) LM6 LM7 LM8 LM9 LM10 LM11 LM12 LM13 LM14 LM15 IM0 IM1 IM2 IM3) H := hP
        have hD : va_D A (w_M cI cJ cZ aM 0 VM1 VM2 VM3 VM4 VM5 WM0 NM0 NM1 NM2 LM0 LM1 LM2 LM3 (vp_updL LM4 x1.toNatClampNeg x2) (vp_updL LM5 x1.toNatClampNeg x4) LM6 LM7 LM8 LM9 LM10 LM11 LM12 LM13 LM14 LM15 IM0 IM1 IM2 IM3) := hD
        refine lv_aload_n hx hb d_Model_swell_57 rfl (lv_at hl 0 rfl) ?_
        refine lv_iconst (v := nI 0) hx hb d_Model_swell_58 (by decide) ?_
        refine va_put (D := (dC, dI)) (ci := 5) (v := .int (nI 0)) (ty := .int) (C := R_Model) (T := T_Model) (N := 30) hx hb hG in_Model ty_Model tok_Model nok_Model hown hK hP hD hS 0 rfl rfl 22 (by decide) (hG _ m_636) (fun _ h9 => h9) rfl (by decide +kernel) rfl rfl (Nat.le_of_ble_eq_true rfl) d_Model_swell_59 (fun H locs hP hD hS => ?_)
        have hP : va_P (dC, dI) vwCl (w_M cI cJ cZ aM 0 VM1 VM2 VM3 VM4 0 WM0 NM0 NM1 NM2 LM0 LM1 LM2 LM3 (vp_updL LM4 x1.toNatClampNeg x2) (vp_updL LM5 x1.toNatClampNeg x4) LM6 LM7 LM8 LM9 LM10 LM11 LM12 LM13 LM14 LM15 IM0 IM1 IM2 IM3) H := hP
        have hD : va_D A (w_M cI cJ cZ aM 0 VM1 VM2 VM3 VM4 0 WM0 NM0 NM1 NM2 LM0 LM1 LM2 LM3 (vp_updL LM4 x1.toNatClampNeg x2) (vp_updL LM5 x1.toNatClampNeg x4) LM6 LM7 LM8 LM9 LM10 LM11 LM12 LM13 LM14 LM15 IM0 IM1 IM2 IM3) := hD
        refine lv_iconst (v := nI 1) hx hb d_Model_swell_62 (by decide) ?_
        subst hR
        exact W.zret (v := nI 1) hx hb hr (by decide) (fun t ht hW => ⟨⟨_, (), rfl, rfl, by rw [ht]; exact hP, va_K.moved hW.alike hK, hD⟩, hS.F ht⟩) hS.2.2 d_Model_swell_63
      · replace hR := (if_pos c37).symm.trans hR
        refine lv_iconst (v := nI 0) hx hb d_Model_swell_40 (by decide) ?_
        subst hR
        exact W.zret (v := nI 0) hx hb hr (by decide) (fun t ht hW => ⟨⟨_, (), rfl, rfl, by rw [ht]; exact hP, va_K.moved hW.alike hK, hD⟩, hS.F ht⟩) hS.2.2 d_Model_swell_41
def f_Model_fits (VM2 : Nat) (VM5 : Nat) (IM0 : Nat → Int32) (x1 : Int32) (x2 : Int32) (x3 : Int32) : Int32 × (Nat) × (Nat) × (Nat → Int32) :=
  hh_bind (f_Model_isIn x1.toInt64 0 3) (fun y11 => if y11 = 0 then (nI 0, 0, VM5, IM0) else (hh_bind (f_Model_isIn x2.toInt64 0 (((nI VM2).toInt64) - 1)) (fun y27 => if y27 = 0 then (nI 0, 0, VM5, IM0) else (if x3 = 0 then (nI 1, 0, 0, upd IM0 ((8 * x1.toNatClampNeg) + x2.toNatClampNeg) (nI 1)) else (nI 1, 0, 0, upd IM0 ((8 * x1.toNatClampNeg) + x2.toNatClampNeg) (nI 0))))))
set_option maxHeartbeats 4000000 in
set_option maxRecDepth 100000 in
theorem c_Model_fits (l : Launch) (dC : Nat → ClassId) (dI : Nat → Nat → Nat) (cI cJ cZ : ClassId) (sz : Nat) (aM : Nat → Nat) (VM0 : Nat) (VM1 : Nat) (VM2 : Nat) (VM3 : Nat) (VM4 : Nat) (VM5 : Nat) (WM0 : Int64) (NM0 : Nat → Nat) (NM1 : Nat → Nat) (NM2 : Nat → Nat) (LM0 : Nat → Int64) (LM1 : Nat → Int64) (LM2 : Nat → Int64) (LM3 : Nat → Int64) (LM4 : Nat → Int64) (LM5 : Nat → Int64) (LM6 : Nat → Int64) (LM7 : Nat → Int64) (LM8 : Nat → Int64) (LM9 : Nat → Int64) (LM10 : Nat → Int64) (LM11 : Nat → Int64) (LM12 : Nat → Int64) (LM13 : Nat → Int64) (LM14 : Nat → Int64) (LM15 : Nat → Int64) (IM0 : Nat → Int32) (IM1 : Nat → Int32) (IM2 : Nat → Int32) (IM3 : Nat → Int32) (x1 : Int32) (x2 : Int32) (x3 : Int32) (m1 : VM1 ≤ 8) (m2 : VM2 ≤ 8) (m3 : VM3 ≤ 6) (m4 : VM4 ≤ 4) (mk4 : ∀ i, NM0 i < 4) (mcw : ∀ i, NM1 i < 12) (mfw : ∀ i, NM2 i < 12) (msb : ∀ i, i < 4 → ¬ LM5 i = 0) (m5 : VM5 ≤ 2) : hh_Ci l y_Model_fits u_Model_fits ({ frames := 1, cells := 0, slots := 0, locals := 25 }) (dC, dI) vwCl [(cI, .int), (cJ, .long), (cZ, .boolean)] (w_M cI cJ cZ aM VM0 VM1 VM2 VM3 VM4 VM5 WM0 NM0 NM1 NM2 LM0 LM1 LM2 LM3 LM4 LM5 LM6 LM7 LM8 LM9 LM10 LM11 LM12 LM13 LM14 LM15 IM0 IM1 IM2 IM3) sz [.ref (aM 0), .int x1, .int x2, .int x3] ((f_Model_fits VM2 VM5 IM0 x1 x2 x3).1) (w_M cI cJ cZ aM ((f_Model_fits VM2 VM5 IM0 x1 x2 x3).2.1) VM1 VM2 VM3 VM4 ((f_Model_fits VM2 VM5 IM0 x1 x2 x3).2.2.1) WM0 NM0 NM1 NM2 LM0 LM1 LM2 LM3 LM4 LM5 LM6 LM7 LM8 LM9 LM10 LM11 LM12 LM13 LM14 LM15 ((f_Model_fits VM2 VM5 IM0 x1 x2 x3).2.2.2) IM1 IM2 IM3) 0 0 := by
  unfold hh_Ci
  refine Met.ofW (cc := b_Model_fits) (maxL := 4) (ret := (some .boolean)) (by decide) rfl ?_
  intro p e s m args below meth c s₁ B hml hv
  obtain ⟨rfl, hsz, hP, hK, hD0⟩ := hv
  have hx := B.exec
  have hb := B.bytes
  have hr := B.returns
  have hts := atoms_spec (ws := u_Model_fits) B.pre
  have hG : ∀ w ∈ wG, w.before ([.ref (aM 0), .int x1, .int x2, .int x3]).toArray s = true := fun w h => hts w (List.mem_cons_of_mem _ h)
  have hown : s.vm.findClass R_Model = some m.cls := findClass_of_methodNamed B.named
  have hlocks := B.notSynchronized
  subst hsz
  have hD := hD0.self (sz := s.heap.size)
  generalize hAe : va_A (w_M cI cJ cZ aM VM0 VM1 VM2 VM3 VM4 VM5 WM0 NM0 NM1 NM2 LM0 LM1 LM2 LM3 LM4 LM5 LM6 LM7 LM8 LM9 LM10 LM11 LM12 LM13 LM14 LM15 IM0 IM1 IM2 IM3) s.heap.size = A at hD ⊢
  have hA : ∀ q : Nat, s.heap.size ≤ q → A q := fun q h => by rw [← hAe]; exact Or.inr h
  have hS : va_S A s.heap s.heap [] := va_S.rf
  have hl := lv_entry ([.ref (aM 0), .int x1, .int x2, .int x3]) (n := 4) (Nat.le_of_ble_eq_true rfl)
  rw [lg_entry_eq]
  generalize (lg_sl ([.ref (aM 0), .int x1, .int x2, .int x3]) ++ List.replicate (4 - (lg_sl ([.ref (aM 0), .int x1, .int x2, .int x3])).length) Slot.unset).toArray = ls at hl ⊢
  have hl : lv_has ls 4 [(0, .ref (aM 0)), (1, .int x1), (2, .int x2), (3, .int x3)] := hl
  generalize hR : f_Model_fits VM2 VM5 IM0 x1 x2 x3 = r0
  obtain ⟨H, locs, hHe, hle⟩ : ∃ (H : Heap) (locs : List Loc), s.heap = H ∧ [] = locs := ⟨_, _, rfl, rfl⟩
  have hP : va_P (dC, dI) vwCl (w_M cI cJ cZ aM VM0 VM1 VM2 VM3 VM4 VM5 WM0 NM0 NM1 NM2 LM0 LM1 LM2 LM3 LM4 LM5 LM6 LM7 LM8 LM9 LM10 LM11 LM12 LM13 LM14 LM15 IM0 IM1 IM2 IM3) H := by rw [← hHe]; exact hP
  have hS : va_S A s.heap H locs := by rw [← hHe, ← hle]; exact hS
  refine hw_start hHe hle ?_
  unfold f_Model_fits at hR
  refine lv_aload_n hx hb d_Model_fits_0 rfl (lv_at hl 0 rfl) ?_
  refine lv_iconst (v := nI 0) hx hb d_Model_fits_1 (by decide) ?_
  refine va_put (D := (dC, dI)) (ci := 5) (v := .int (nI 0)) (ty := .int) (C := R_Model) (T := T_Model) (N := 30) hx hb hG in_Model ty_Model tok_Model nok_Model hown hK hP hD hS 0 rfl rfl 0 (by decide) (hG _ m_614) (fun _ h9 => h9) rfl (by decide +kernel) rfl rfl (Nat.le_of_ble_eq_true rfl) d_Model_fits_2 (fun H locs hP hD hS => ?_)
  have hP : va_P (dC, dI) vwCl (w_M cI cJ cZ aM 0 VM1 VM2 VM3 VM4 VM5 WM0 NM0 NM1 NM2 LM0 LM1 LM2 LM3 LM4 LM5 LM6 LM7 LM8 LM9 LM10 LM11 LM12 LM13 LM14 LM15 IM0 IM1 IM2 IM3) H := hP
  have hD : va_D A (w_M cI cJ cZ aM 0 VM1 VM2 VM3 VM4 VM5 WM0 NM0 NM1 NM2 LM0 LM1 LM2 LM3 LM4 LM5 LM6 LM7 LM8 LM9 LM10 LM11 LM12 LM13 LM14 LM15 IM0 IM1 IM2 IM3) := hD
  refine lv_iload_n hx hb d_Model_fits_5 rfl (lv_at hl 1 rfl) ?_
  refine lv_i2l (v := x1.toInt64) hx hb d_Model_fits_6 rfl ?_
  refine lv_lconst (v := 0) hx hb d_Model_fits_7 (by decide) ?_
  refine lv_ldc2 (v := 3) hx hb hown (hG _ m_717) d_Model_fits_8 ?_
  obtain ⟨y11, hy11, hR⟩ := hw_bind hR
  have hM := c_Model_isIn l dC dI cI cJ cZ H.size x1.toInt64 0 3
  rw [hy11] at hM
  refine hw_callSi (As := [.long x1.toInt64, .long 0, .long 3]) (rest := []) (wr := w_M cI cJ cZ aM 0 VM1 VM2 VM3 VM4 VM5 WM0 NM0 NM1 NM2 LM0 LM1 LM2 LM3 LM4 LM5 LM6 LM7 LM8 LM9 LM10 LM11 LM12 LM13 LM14 LM15 IM0 IM1 IM2 IM3) ⟨hx, hb, hml, hown, hG⟩ hM (hw_cwS 3 hG m_714 m_715 m_7 m_716 rfl rfl (by decide +kernel) ⟨Nat.le_of_ble_eq_true rfl, Nat.le_of_ble_eq_true rfl⟩) hK hP hD hS hA [] [0, 1, 2, 3, 4, 5, 6, 7, 8, 9, 10, 11, 12, 13, 14, 15, 16, 17, 18, 19, 20, 21, 22, 23] rfl rfl (by decide) (by decide) (by decide) rfl hl.1 rfl (Nat.le_of_ble_eq_true rfl) d_Model_fits_11 ⟨Nat.le_of_ble_eq_true rfl, Nat.le_of_ble_eq_true rfl⟩ (fun H locs hP hD hS => ?_)
  have hP : va_P (dC, dI) vwCl (w_M cI cJ cZ aM 0 VM1 VM2 VM3 VM4 VM5 WM0 NM0 NM1 NM2 LM0 LM1 LM2 LM3 LM4 LM5 LM6 LM7 LM8 LM9 LM10 LM11 LM12 LM13 LM14 LM15 IM0 IM1 IM2 IM3) H := hP
  have hD : va_D A (w_M cI cJ cZ aM 0 VM1 VM2 VM3 VM4 VM5 WM0 NM0 NM1 NM2 LM0 LM1 LM2 LM3 LM4 LM5 LM6 LM7 LM8 LM9 LM10 LM11 LM12 LM13 LM14 LM15 IM0 IM1 IM2 IM3) := hD
  have hbl11 := hm_in (x := x1) (n := 4) (hi := 3) (by decide)
  rw [hy11] at hbl11
  refine lv_if_eq (tgt := 33) hx hb d_Model_fits_14 (by decide) (fun c14 => ?_) (fun c14 => ?_)
  · replace hR := (if_pos c14).symm.trans hR
    refine lv_iconst (v := nI 0) hx hb d_Model_fits_33 (by decide) ?_
    subst hR
    exact W.zret (v := nI 0) hx hb hr (by decide) (fun t ht hW => ⟨⟨_, (), rfl, rfl, by rw [ht]; exact hP, va_K.moved hW.alike hK, hD⟩, hS.F ht⟩) hS.2.2 d_Model_fits_34
  · replace hR := (if_neg c14).symm.trans hR
    refine lv_iload_n hx hb d_Model_fits_17 rfl (lv_at hl 2 rfl) ?_
    refine lv_i2l (v := x2.toInt64) hx hb d_Model_fits_18 rfl ?_
    refine lv_lconst (v := 0) hx hb d_Model_fits_19 (by decide) ?_
    refine lv_aload_n hx hb d_Model_fits_20 rfl (lv_at hl 0 rfl) ?_
    refine va_get (D := (dC, dI)) (ci := 5) (v := .int (nI VM2)) (C := R_Model) (T := T_Model) (N := 30) hx hb hG in_Model hown hK hP 0 rfl rfl 6 (by decide) (hG _ m_620) (fun _ h9 => h9) rfl d_Model_fits_21 ?_
    refine lv_i2l (v := (nI VM2).toInt64) hx hb d_Model_fits_24 rfl ?_
    refine lv_lconst (v := 1) hx hb d_Model_fits_25 (by decide) ?_
    refine lv_lsub hx hb d_Model_fits_26 ?_
    obtain ⟨y27, hy27, hR⟩ := hw_bind hR
    have hM := c_Model_isIn l dC dI cI cJ cZ H.size x2.toInt64 0 (((nI VM2).toInt64) - 1)
    rw [hy27] at hM
    refine hw_callSi (As := [.long x2.toInt64, .long 0, .long (((nI VM2).toInt64) - 1)]) (rest := []) (wr := w_M cI cJ cZ aM 0 VM1 VM2 VM3 VM4 VM5 WM0 NM0 NM1 NM2 LM0 LM1 LM2 LM3 LM4 LM5 LM6 LM7 LM8 LM9 LM10 LM11 LM12 LM13 LM14 LM15 IM0 IM1 IM2 IM3) ⟨hx, hb, hml, hown, hG⟩ hM (hw_cwS 3 hG m_714 m_715 m_7 m_716 rfl rfl (by decide +kernel) ⟨Nat.le_of_ble_eq_true rfl, Nat.le_of_ble_eq_true rfl⟩) hK hP hD hS hA [] [0, 1, 2, 3, 4, 5, 6, 7, 8, 9, 10, 11, 12, 13, 14, 15, 16, 17, 18, 19, 20, 21, 22, 23] rfl rfl (by decide) (by decide) (by decide) rfl hl.1 rfl (Nat.le_of_ble_eq_true rfl) d_Model_fits_27 ⟨Nat.le_of_ble_eq_true rfl, Nat.le_of_ble_eq_true rfl⟩ (fun H locs hP hD hS => ?_)
    have hP : va_P (dC, dI) vwCl (w_M cI cJ cZ aM 0 VM1 VM2 VM3 VM4 VM5 WM0 NM0 NM1 NM2 LM0 LM1 LM2 LM3 LM4 LM5 LM6 LM7 LM8 LM9 LM10 LM11 LM12 LM13 LM14 LM15 IM0 IM1 IM2 IM3) H := hP
    have hD : va_D A (w_M cI cJ cZ aM 0 VM1 VM2 VM3 VM4 VM5 WM0 NM0 NM1 NM2 LM0 LM1 LM2 LM3 LM4 LM5 LM6 LM7 LM8 LM9 LM10 LM11 LM12 LM13 LM14 LM15 IM0 IM1 IM2 IM3) := hD
    have hbl27 := hm_in (x := x2) (n := VM2) (hi := ((nI VM2).toInt64) - 1) (hm_fm (by omega))
    rw [hy27] at hbl27
    refine lv_if_ne (tgt := 35) hx hb d_Model_fits_30 (by decide) (fun c30 => ?_) (fun c30 => ?_)
    · replace hR := (if_neg c30).symm.trans hR
      obtain ⟨hna1, hnb1⟩ := hbl11 c14
      obtain ⟨hna2, hnb2⟩ := hbl27 c30
      have en35_1 : nI (x1.toNatClampNeg) = x1 := hw_nat hna1
      have hl : lv_has ls 4 [(0, .ref (aM 0)), (1, .int (nI x1.toNatClampNeg)), (2, .int x2), (3, .int x3)] := by rw [en35_1]; exact hl
      have en35_2 : nI (x2.toNatClampNeg) = x2 := hw_nat hna2
      have hl : lv_has ls 4 [(0, .ref (aM 0)), (1, .int (nI x1.toNatClampNeg)), (2, .int (nI x2.toNatClampNeg)), (3, .int x3)] := by rw [en35_2]; exact hl
      refine lv_aload_n hx hb d_Model_fits_35 rfl (lv_at hl 0 rfl) ?_
      refine va_get (D := (dC, dI)) (ci := 5) (v := .ref (aM 8)) (C := R_Model) (T := T_Model) (N := 30) hx hb hG in_Model hown hK hP 0 rfl rfl 10 (by decide) (hG _ m_624) (fun _ h9 => h9) rfl d_Model_fits_36 ?_
      refine lv_bipush (v := nI 8) hx hb d_Model_fits_39 (by decide) ?_
      refine lv_iload_n hx hb d_Model_fits_41 rfl (lv_at hl 1 rfl) ?_
      refine hw_imul hx hb d_Model_fits_42 ?_
      refine lv_iload_n hx hb d_Model_fits_43 rfl (lv_at hl 2 rfl) ?_
      refine hw_iadd hx hb d_Model_fits_44 ?_
      refine lv_iload_n hx hb d_Model_fits_45 rfl (lv_at hl 3 rfl) ?_
      refine lv_if_ne (tgt := 53) hx hb d_Model_fits_46 (by decide) (fun c46 => ?_) (fun c46 => ?_)
      · replace hR := (if_neg c46).symm.trans hR
        refine lv_iconst (v := nI 0) hx hb d_Model_fits_53 (by decide) ?_
        refine hw_zast (f := IM0) hx hb hK hP hD hS 8 2 rfl rfl (by decide) (by omega) (by decide) d_Model_fits_54 (fun H locs hP hD hS => ?_)
        have hP : va_P (dC, dI) vwCl (w_M cI cJ cZ aM 0 VM1 VM2 VM3 VM4 VM5 WM0 NM0 NM1 NM2 LM0 LM1 LM2 LM3 LM4 LM5 LM6 LM7 LM8 LM9 LM10 LM11 LM12 LM13 LM14 LM15 (upd IM0 ((8 * x1.toNatClampNeg) + x2.toNatClampNeg) (nI 0)) IM1 IM2 IM3) H := hP
        have hD : va_D A (w_M cI cJ cZ aM 0 VM1 VM2 VM3 VM4 VM5 WM0 NM0 NM1 NM2 LM0 LM1 LM2 LM3 LM4 LM5 LM6 LM7 LM8 LM9 LM10 LM11 LM12 LM13 LM14 LM15 (upd IM0 ((8 * x1.toNatClampNeg) + x2.toNatClampNeg) (nI 0)) IM1 IM2 IM3) := hD
        refine lv_aload_n hx hb d_Model_fits_55 rfl (lv_at hl 0 rfl) ?_
        refine lv_iconst (v := nI 0) hx hb d_Model_fits_56 (by decide) ?_
        refine va_put (D := (dC, dI)) (ci := 5) (v := .int (nI 0)) (ty := .int) (C := R_Model) (T := T_Model) (N := 30) hx hb hG in_Model ty_Model tok_Model nok_Model hown hK hP hD hS 0 rfl rfl 22 (by decide) (hG _ m_636) (fun _ h9 => h9) rfl (by decide +kernel) rfl rfl (Nat.le_of_ble_eq_true rfl) d_Model_fits_57 (fun H locs hP hD hS => ?_)
        have hP : va_P (dC, dI) vwCl (w_M cI cJ cZ aM 0 VM1 VM2 VM3 VM4 0 WM0 NM0 NM1 NM2 LM0 LM1 LM2 LM3 LM4 LM5 LM6 LM7 LM8 LM9 LM10 LM11 LM12 LM13 LM14 LM15 (upd IM0 ((8 * x1.toNatClampNeg) + x2.toNatClampNeg) (nI 0)) IM1 IM2 IM3) H := hP
        have hD : va_D A (w_M cI cJ cZ aM 0 VM1 VM2 VM3 VM4 0 WM0 NM0 NM1 NM2 LM0 LM1 LM2 LM3 LM4 LM5 LM6 LM7 LM8 LM9 LM10 LM11 LM12 LM13 LM14 LM15 (upd IM0 ((8 * x1.toNatClampNeg) + x2.toNatClampNeg) (nI 0)) IM1 IM2 IM3) := hD
        refine lv_iconst (v := nI 1) hx hb d_Model_fits_60 (by decide) ?_
        subst hR
        exact W.zret (v := nI 1) hx hb hr (by decide) (fun t ht hW => ⟨⟨_, (), rfl, rfl, by rw [ht]; exact hP, va_K.moved hW.alike hK, hD⟩, hS.F ht⟩) hS.2.2 d_Model_fits_61
      · replace hR := (if_pos c46).symm.trans hR
        refine lv_iconst (v := nI 1) hx hb d_Model_fits_49 (by decide) ?_
        refine lv_goto (tgt := 54) hx hb d_Model_fits_50 (by decide) ?_
        refine hw_zast (f := IM0) hx hb hK hP hD hS 8 2 rfl rfl (by decide) (by omega) (by decide) d_Model_fits_54 (fun H locs hP hD hS => ?_)
        have hP : va_P (dC, dI) vwCl (w_M cI cJ cZ aM 0 VM1 VM2 VM3 VM4 VM5 WM0 NM0 NM1 NM2 LM0 LM1 LM2 LM3 LM4 LM5 LM6 LM7 LM8 LM9 LM10 LM11 LM12 LM13 LM14 LM15 (upd IM0 ((8 * x1.toNatClampNeg) + x2.toNatClampNeg) (nI 1)) IM1 IM2 IM3) H := hP
        have hD : va_D A (w_M cI cJ cZ aM 0 VM1 VM2 VM3 VM4 VM5 WM0 NM0 NM1 NM2 LM0 LM1 LM2 LM3 LM4 LM5 LM6 LM7 LM8 LM9 LM10 LM11 LM12 LM13 LM14 LM15 (upd IM0 ((8 * x1.toNatClampNeg) + x2.toNatClampNeg) (nI 1)) IM1 IM2 IM3) := hD
        refine lv_aload_n hx hb d_Model_fits_55 rfl (lv_at hl 0 rfl) ?_
        refine lv_iconst (v := nI 0) hx hb d_Model_fits_56 (by decide) ?_
        refine va_put (D := (dC, dI)) (ci := 5) (v := .int (nI 0)) (ty := .int) (C := R_Model) (T := T_Model) (N := 30) hx hb hG in_Model ty_Model tok_Model nok_Model hown hK hP hD hS 0 rfl rfl 22 (by decide) (hG _ m_636) (fun _ h9 => h9) rfl (by decide +kernel) rfl rfl (Nat.le_of_ble_eq_true rfl) d_Model_fits_57 (fun H locs hP hD hS => ?_)
        have hP : va_P (dC, dI) vwCl (w_M cI cJ cZ aM 0 VM1 VM2 VM3 VM4 0 WM0 NM0 NM1 NM2 LM0 LM1 LM2 LM3 LM4 LM5 LM6 LM7 LM8 LM9 LM10 LM11 LM12 LM13 LM14 LM15 (upd IM0 ((8 * x1.toNatClampNeg) + x2.toNatClampNeg) (nI 1)) IM1 IM2 IM3) H := hP
        have hD : va_D A (w_M cI cJ cZ aM 0 VM1 VM2 VM3 VM4 0 WM0 NM0 NM1 NM2 LM0 LM1 LM2 LM3 LM4 LM5 LM6 LM7 LM8 LM9 LM10 LM11 LM12 LM13 LM14 LM15 (upd IM0 ((8 * x1.toNatClampNeg) + x2.toNatClampNeg) (nI 1)) IM1 IM2 IM3) := hD
        refine lv_iconst (v := nI 1) hx hb d_Model_fits_60 (by decide) ?_
        subst hR
        exact W.zret (v := nI 1) hx hb hr (by decide) (fun t ht hW => ⟨⟨_, (), rfl, rfl, by rw [ht]; exact hP, va_K.moved hW.alike hK, hD⟩, hS.F ht⟩) hS.2.2 d_Model_fits_61
    · replace hR := (if_pos c30).symm.trans hR
      refine lv_iconst (v := nI 0) hx hb d_Model_fits_33 (by decide) ?_
      subst hR
      exact W.zret (v := nI 0) hx hb hr (by decide) (fun t ht hW => ⟨⟨_, (), rfl, rfl, by rw [ht]; exact hP, va_K.moved hW.alike hK, hD⟩, hS.F ht⟩) hS.2.2 d_Model_fits_34
def f_Model_way (VM3 : Nat) (VM5 : Nat) (LM6 : Nat → Int64) (LM7 : Nat → Int64) (LM8 : Nat → Int64) (x1 : Int64) (x3 : Int64) (x5 : Int64) : Int32 × (Nat) × (Nat) × (Nat) × (Nat → Int64) × (Nat → Int64) × (Nat → Int64) :=
  hh_bind (f_Model_isIn x1 0 100000) (fun y10 => if y10 = 0 then ((-1), 0, VM3, VM5, LM6, LM7, LM8) else (hh_bind (f_Model_isIn x3 0 100000) (fun y21 => if y21 = 0 then ((-1), 0, VM3, VM5, LM6, LM7, LM8) else (hh_bind (f_Model_isIn x5 0 100000) (fun y33 => if y33 = 0 then ((-1), 0, VM3, VM5, LM6, LM7, LM8) else (if VM3 = 6 then ((-1), 0, VM3, VM5, LM6, LM7, LM8) else (nI ((VM3 + 1) - 1), 0, VM3 + 1, 0, vp_updL LM6 VM3 x1, vp_updL LM7 VM3 x3, vp_updL LM8 VM3 x5)))))))
set_option maxHeartbeats 4000000 in
set_option maxRecDepth 100000 in
theorem c_Model_way (l : Launch) (dC : Nat → ClassId) (dI : Nat → Nat → Nat) (cI cJ cZ : ClassId) (sz : Nat) (aM : Nat → Nat) (VM0 : Nat) (VM1 : Nat) (VM2 : Nat) (VM3 : Nat) (VM4 : Nat) (VM5 : Nat) (WM0 : Int64) (NM0 : Nat → Nat) (NM1 : Nat → Nat) (NM2 : Nat → Nat) (LM0 : Nat → Int64) (LM1 : Nat → Int64) (LM2 : Nat → Int64) (LM3 : Nat → Int64) (LM4 : Nat → Int64) (LM5 : Nat → Int64) (LM6 : Nat → Int64) (LM7 : Nat → Int64) (LM8 : Nat → Int64) (LM9 : Nat → Int64) (LM10 : Nat → Int64) (LM11 : Nat → Int64) (LM12 : Nat → Int64) (LM13 : Nat → Int64) (LM14 : Nat → Int64) (LM15 : Nat → Int64) (IM0 : Nat → Int32) (IM1 : Nat → Int32) (IM2 : Nat → Int32) (IM3 : Nat → Int32) (x1 : Int64) (x3 : Int64) (x5 : Int64) (m1 : VM1 ≤ 8) (m2 : VM2 ≤ 8) (m3 : VM3 ≤ 6) (m4 : VM4 ≤ 4) (mk4 : ∀ i, NM0 i < 4) (mcw : ∀ i, NM1 i < 12) (mfw : ∀ i, NM2 i < 12) (msb : ∀ i, i < 4 → ¬ LM5 i = 0) (m5 : VM5 ≤ 2) : hh_Ci l y_Model_way u_Model_way ({ frames := 1, cells := 0, slots := 0, locals := 25 }) (dC, dI) vwCl [(cI, .int), (cJ, .long), (cZ, .boolean)] (w_M cI cJ cZ aM VM0 VM1 VM2 VM3 VM4 VM5 WM0 NM0 NM1 NM2 LM0 LM1 LM2 LM3 LM4 LM5 LM6 LM7 LM8 LM9 LM10 LM11 LM12 LM13 LM14 LM15 IM0 IM1 IM2 IM3) sz [.ref (aM 0), .long x1, .long x3, .long x5] ((f_Model_way VM3 VM5 LM6 LM7 LM8 x1 x3 x5).1) (w_M cI cJ cZ aM ((f_Model_way VM3 VM5 LM6 LM7 LM8 x1 x3 x5).2.1) VM1 VM2 ((f_Model_way VM3 VM5 LM6 LM7 LM8 x1 x3 x5).2.2.1) VM4 ((f_Model_way VM3 VM5 LM6 LM7 LM8 x1 x3 x5).2.2.2.1) WM0 NM0 NM1 NM2 LM0 LM1 LM2 LM3 LM4 LM5 ((f_Model_way VM3 VM5 LM6 LM7 LM8 x1 x3 x5).2.2.2.2.1) ((f_Model_way VM3 VM5 LM6 LM7 LM8 x1 x3 x5).2.2.2.2.2.1) ((f_Model_way VM3 VM5 LM6 LM7 LM8 x1 x3 x5).2.2.2.2.2.2) LM9 LM10 LM11 LM12 LM13 LM14 LM15 IM0 IM1 IM2 IM3) 0 0 := by
  unfold hh_Ci
  refine Met.ofW (cc := b_Model_way) (maxL := 7) (ret := (some .int)) (by decide) rfl ?_
  intro p e s m args below meth c s₁ B hml hv
  obtain ⟨rfl, hsz, hP, hK, hD0⟩ := hv
  have hx := B.exec
  have hb := B.bytes
  have hr := B.returns
  have hts := atoms_spec (ws := u_Model_way) B.pre
  have hG : ∀ w ∈ wG, w.before ([.ref (aM 0), .long x1, .long x3, .long x5]).toArray s = true := fun w h => hts w (List.mem_cons_of_mem _ h)
  have hown : s.vm.findClass R_Model = some m.cls := findClass_of_methodNamed B.named
  have hlocks := B.notSynchronized
  subst hsz
  have hD := hD0.self (sz := s.heap.size)
  generalize hAe : va_A (w_M cI cJ cZ aM VM0 VM1 VM2 VM3 VM4 VM5 WM0 NM0 NM1 NM2 LM0 LM1 LM2 LM3 LM4 LM5 LM6 LM7 LM8 LM9 LM10 LM11 LM12 LM13 LM14 LM15 IM0 IM1 IM2 IM3) s.heap.size = A at hD ⊢
  have hA : ∀ q : Nat, s.heap.size ≤ q → A q := fun q h => by rw [← hAe]; exact Or.inr h
  have hS : va_S A s.heap s.heap [] := va_S.rf
  have hl := lv_entry ([.ref (aM 0), .long x1, .long x3, .long x5]) (n := 7) (Nat.le_of_ble_eq_true rfl)
  rw [lg_entry_eq]
  generalize (lg_sl ([.ref (aM 0), .long x1, .long x3, .long x5]) ++ List.replicate (7 - (lg_sl ([.ref (aM 0), .long x1, .long x3, .long x5])).length) Slot.unset).toArray = ls at hl ⊢
  have hl : lv_has ls 7 [(0, .ref (aM 0)), (1, .long x1), (3, .long x3), (5, .long x5)] := hl
  generalize hR : f_Model_way VM3 VM5 LM6 LM7 LM8 x1 x3 x5 = r0
  obtain ⟨H, locs, hHe, hle⟩ : ∃ (H : Heap) (locs : List Loc), s.heap = H ∧ [] = locs := ⟨_, _, rfl, rfl⟩
  have hP : va_P (dC, dI) vwCl (w_M cI cJ cZ aM VM0 VM1 VM2 VM3 VM4 VM5 WM0 NM0 NM1 NM2 LM0 LM1 LM2 LM3 LM4 LM5 LM6 LM7 LM8 LM9 LM10 LM11 LM12 LM13 LM14 LM15 IM0 IM1 IM2 IM3) H := by rw [← hHe]; exact hP
  have hS : va_S A s.heap H locs := by rw [← hHe, ← hle]; exact hS
  refine hw_start hHe hle ?_
  unfold f_Model_way at hR
  refine lv_aload_n hx hb d_Model_way_0 rfl (lv_at hl 0 rfl) ?_
  refine lv_iconst (v := nI 0) hx hb d_Model_way_1 (by decide) ?_
  refine va_put (D := (dC, dI)) (ci := 5) (v := .int (nI 0)) (ty := .int) (C := R_Model) (T := T_Model) (N := 30) hx hb hG in_Model ty_Model tok_Model nok_Model hown hK hP hD hS 0 rfl rfl 0 (by decide) (hG _ m_614) (fun _ h9 => h9) rfl (by decide +kernel) rfl rfl (Nat.le_of_ble_eq_true rfl) d_Model_way_2 (fun H locs hP hD hS => ?_)
  have hP : va_P (dC, dI) vwCl (w_M cI cJ cZ aM 0 VM1 VM2 VM3 VM4 VM5 WM0 NM0 NM1 NM2 LM0 LM1 LM2 LM3 LM4 LM5 LM6 LM7 LM8 LM9 LM10 LM11 LM12 LM13 LM14 LM15 IM0 IM1 IM2 IM3) H := hP
  have hD : va_D A (w_M cI cJ cZ aM 0 VM1 VM2 VM3 VM4 VM5 WM0 NM0 NM1 NM2 LM0 LM1 LM2 LM3 LM4 LM5 LM6 LM7 LM8 LM9 LM10 LM11 LM12 LM13 LM14 LM15 IM0 IM1 IM2 IM3) := hD
  refine lv_lload_n hx hb d_Model_way_5 rfl (lv_at hl 1 rfl) ?_
  refine lv_lconst (v := 0) hx hb d_Model_way_6 (by decide) ?_
  refine lv_ldc2 (v := 100000) hx hb hown (hG _ m_719) d_Model_way_7 ?_
  obtain ⟨y10, hy10, hR⟩ := hw_bind hR
  have hM := c_Model_isIn l dC dI cI cJ cZ H.size x1 0 100000
  rw [hy10] at hM
  refine hw_callSi (As := [.long x1, .long 0, .long 100000]) (rest := []) (wr := w_M cI cJ cZ aM 0 VM1 VM2 VM3 VM4 VM5 WM0 NM0 NM1 NM2 LM0 LM1 LM2 LM3 LM4 LM5 LM6 LM7 LM8 LM9 LM10 LM11 LM12 LM13 LM14 LM15 IM0 IM1 IM2 IM3) ⟨hx, hb, hml, hown, hG⟩ hM (hw_cwS 3 hG m_714 m_715 m_7 m_716 rfl rfl (by decide +kernel) ⟨Nat.le_of_ble_eq_true rfl, Nat.le_of_ble_eq_true rfl⟩) hK hP hD hS hA [] [0, 1, 2, 3, 4, 5, 6, 7, 8, 9, 10, 11, 12, 13, 14, 15, 16, 17, 18, 19, 20, 21, 22, 23] rfl rfl (by decide) (by decide) (by decide) rfl hl.1 rfl (Nat.le_of_ble_eq_true rfl) d_Model_way_10 ⟨Nat.le_of_ble_eq_true rfl, Nat.le_of_ble_eq_true rfl⟩ (fun H locs hP hD hS => ?_)
  have hP : va_P (dC, dI) vwCl (w_M cI cJ cZ aM 0 VM1 VM2 VM3 VM4 VM5 WM0 NM0 NM1 NM2 LM0 LM1 LM2 LM3 LM4 LM5 LM6 LM7 LM8 LM9 LM10 LM11 LM12 LM13 LM14 LM15 IM0 IM1 IM2 IM3) H := hP
  have hD : va_D A (w_M cI cJ cZ aM 0 VM1 VM2 VM3 VM4 VM5 WM0 NM0 NM1 NM2 LM0 LM1 LM2 LM3 LM4 LM5 LM6 LM7 LM8 LM9 LM10 LM11 LM12 LM13 LM14 LM15 IM0 IM1 IM2 IM3) := hD
  refine lv_if_eq (tgt := 48) hx hb d_Model_way_13 (by decide) (fun c13 => ?_) (fun c13 => ?_)
  · replace hR := (if_pos c13).symm.trans hR
    refine lv_iconst (v := (-1)) hx hb d_Model_way_48 (by decide) ?_
    subst hR
    exact W.iret (v := (-1)) hx hb hr (fun t ht hW => ⟨⟨_, (), rfl, rfl, by rw [ht]; exact hP, va_K.moved hW.alike hK, hD⟩, hS.F ht⟩) hS.2.2 d_Model_way_49
  · replace hR := (if_neg c13).symm.trans hR
    refine lv_lload_n hx hb d_Model_way_16 rfl (lv_at hl 2 rfl) ?_
    refine lv_lconst (v := 0) hx hb d_Model_way_17 (by decide) ?_
    refine lv_ldc2 (v := 100000) hx hb hown (hG _ m_719) d_Model_way_18 ?_
    obtain ⟨y21, hy21, hR⟩ := hw_bind hR
    have hM := c_Model_isIn l dC dI cI cJ cZ H.size x3 0 100000
    rw [hy21] at hM
    refine hw_callSi (As := [.long x3, .long 0, .long 100000]) (rest := []) (wr := w_M cI cJ cZ aM 0 VM1 VM2 VM3 VM4 VM5 WM0 NM0 NM1 NM2 LM0 LM1 LM2 LM3 LM4 LM5 LM6 LM7 LM8 LM9 LM10 LM11 LM12 LM13 LM14 LM15 IM0 IM1 IM2 IM3) ⟨hx, hb, hml, hown, hG⟩ hM (hw_cwS 3 hG m_714 m_715 m_7 m_716 rfl rfl (by decide +kernel) ⟨Nat.le_of_ble_eq_true rfl, Nat.le_of_ble_eq_true rfl⟩) hK hP hD hS hA [] [0, 1, 2, 3, 4, 5, 6, 7, 8, 9, 10, 11, 12, 13, 14, 15, 16, 17, 18, 19, 20, 21, 22, 23] rfl rfl (by decide) (by decide) (by decide) rfl hl.1 rfl (Nat.le_of_ble_eq_true rfl) d_Model_way_21 ⟨Nat.le_of_ble_eq_true rfl, Nat.le_of_ble_eq_true rfl⟩ (fun H locs hP hD hS => ?_)
    have hP : va_P (dC, dI) vwCl (w_M cI cJ cZ aM 0 VM1 VM2 VM3 VM4 VM5 WM0 NM0 NM1 NM2 LM0 LM1 LM2 LM3 LM4 LM5 LM6 LM7 LM8 LM9 LM10 LM11 LM12 LM13 LM14 LM15 IM0 IM1 IM2 IM3) H := hP
    have hD : va_D A (w_M cI cJ cZ aM 0 VM1 VM2 VM3 VM4 VM5 WM0 NM0 NM1 NM2 LM0 LM1 LM2 LM3 LM4 LM5 LM6 LM7 LM8 LM9 LM10 LM11 LM12 LM13 LM14 LM15 IM0 IM1 IM2 IM3) := hD
    refine lv_if_eq (tgt := 48) hx hb d_Model_way_24 (by decide) (fun c24 => ?_) (fun c24 => ?_)
    · replace hR := (if_pos c24).symm.trans hR
      refine lv_iconst (v := (-1)) hx hb d_Model_way_48 (by decide) ?_
      subst hR
      exact W.iret (v := (-1)) hx hb hr (fun t ht hW => ⟨⟨_, (), rfl, rfl, by rw [ht]; exact hP, va_K.moved hW.alike hK, hD⟩, hS.F ht⟩) hS.2.2 d_Model_way_49
    · replace hR := (if_neg c24).symm.trans hR
      refine lv_lload hx hb d_Model_way_27 (lv_at hl 3 rfl) ?_
      refine lv_lconst (v := 0) hx hb d_Model_way_29 (by decide) ?_
      refine lv_ldc2 (v := 100000) hx hb hown (hG _ m_719) d_Model_way_30 ?_
      obtain ⟨y33, hy33, hR⟩ := hw_bind hR
      have hM := c_Model_isIn l dC dI cI cJ cZ H.size x5 0 100000
      rw [hy33] at hM
      refine hw_callSi (As := [.long x5, .long 0, .long 100000]) (rest := []) (wr := w_M cI cJ cZ aM 0 VM1 VM2 VM3 VM4 VM5 WM0 NM0 NM1 NM2 LM0 LM1 LM2 LM3 LM4 LM5 LM6 LM7 LM8 LM9 LM10 LM11 LM12 LM13 LM14 LM15 IM0 IM1 IM2 IM3) ⟨hx, hb, hml, hown, hG⟩ hM (hw_cwS 3 hG m_714 m_715 m_7 m_716 rfl rfl (by decide +kernel) ⟨Nat.le_of_ble_eq_true rfl, Nat.le_of_ble_eq_true rfl⟩) hK hP hD hS hA [] [0, 1, 2, 3, 4, 5, 6, 7, 8, 9, 10, 11, 12, 13, 14, 15, 16, 17, 18, 19, 20, 21, 22, 23] rfl rfl (by decide) (by decide) (by decide) rfl hl.1 rfl (Nat.le_of_ble_eq_true rfl) d_Model_way_33 ⟨Nat.le_of_ble_eq_true rfl, Nat.le_of_ble_eq_true rfl⟩ (fun H locs hP hD hS => ?_)
      have hP : va_P (dC, dI) vwCl (w_M cI cJ cZ aM 0 VM1 VM2 VM3 VM4 VM5 WM0 NM0 NM1 NM2 LM0 LM1 LM2 LM3 LM4 LM5 LM6 LM7 LM8 LM9 LM10 LM11 LM12 LM13 LM14 LM15 IM0 IM1 IM2 IM3) H := hP
      have hD : va_D A (w_M cI cJ cZ aM 0 VM1 VM2 VM3 VM4 VM5 WM0 NM0 NM1 NM2 LM0 LM1 LM2 LM3 LM4 LM5 LM6 LM7 LM8 LM9 LM10 LM11 LM12 LM13 LM14 LM15 IM0 IM1 IM2 IM3) := hD
      refine lv_if_eq (tgt := 48) hx hb d_Model_way_36 (by decide) (fun c36 => ?_) (fun c36 => ?_)
      · replace hR := (if_pos c36).symm.trans hR
        refine lv_iconst (v := (-1)) hx hb d_Model_way_48 (by decide) ?_
        subst hR
        exact W.iret (v := (-1)) hx hb hr (fun t ht hW => ⟨⟨_, (), rfl, rfl, by rw [ht]; exact hP, va_K.moved hW.alike hK, hD⟩, hS.F ht⟩) hS.2.2 d_Model_way_49
      · replace hR := (if_neg c36).symm.trans hR
        refine lv_aload_n hx hb d_Model_way_39 rfl (lv_at hl 0 rfl) ?_
        refine va_get (D := (dC, dI)) (ci := 5) (v := .int (nI VM3)) (C := R_Model) (T := T_Model) (N := 30) hx hb hG in_Model hown hK hP 0 rfl rfl 13 (by decide) (hG _ m_627) (fun _ h9 => h9) rfl d_Model_way_40 ?_
        refine lv_bipush (v := nI 6) hx hb d_Model_way_43 (by decide) ?_
        refine hw_icmp_ne (tgt := 50) hx hb d_Model_way_45 (by decide) (by omega) (by omega) (fun c45 => ?_) (fun c45 => ?_)
        · replace hR := (if_neg c45).symm.trans hR
          refine lv_aload_n hx hb d_Model_way_50 rfl (lv_at hl 0 rfl) ?_
          refine va_get (D := (dC, dI)) (ci := 5) (v := .ref (aM 11)) (C := R_Model) (T := T_Model) (N := 30) hx hb hG in_Model hown hK hP 0 rfl rfl 14 (by decide) (hG _ m_628) (fun _ h9 => h9) rfl d_Model_way_51 ?_
          refine lv_aload_n hx hb d_Model_way_54 rfl (lv_at hl 0 rfl) ?_
          refine va_get (D := (dC, dI)) (ci := 5) (v := .int (nI VM3)) (C := R_Model) (T := T_Model) (N := 30) hx hb hG in_Model hown hK hP 0 rfl rfl 13 (by decide) (hG _ m_627) (fun _ h9 => h9) rfl d_Model_way_55 ?_
          refine lv_lload_n hx hb d_Model_way_58 rfl (lv_at hl 1 rfl) ?_
          refine hw_last (f := LM6) hx hb hK hP hD hS 11 1 rfl rfl (by decide) (by omega) d_Model_way_59 (fun H locs hP hD hS => ?_)
          have hP : va_P (dC, dI) vwCl (w_M cI cJ cZ aM 0 VM1 VM2 VM3 VM4 VM5 WM0 NM0 NM1 NM2 LM0 LM1 LM2 LM3 LM4 LM5 (vp_updL LM6 VM3 x1) LM7 LM8 LM9 LM10 LM11 LM12 LM13 LM14 LM15 IM0 IM1 IM2 IM3) H := hP
          have hD : va_D A (w_M cI cJ cZ aM 0 VM1 VM2 VM3 VM4 VM5 WM0 NM0 NM1 NM2 LM0 LM1 LM2 LM3 LM4 LM5 (vp_updL LM6 VM3 x1) LM7 LM8 LM9 LM10 LM11 LM12 LM13 LM14 LM15 IM0 IM1 IM2 IM3) := hD
          refine lv_aload_n hx hb d_Model_way_60 rfl (lv_at hl 0 rfl) ?_
          refine va_get (D := (dC, dI)) (ci := 5) (v := .ref (aM 12)) (C := R_Model) (T := T_Model) (N := 30) hx hb hG in_Model hown hK hP 0 rfl rfl 15 (by decide) (hG _ m_629) (fun _ h9 => h9) rfl d_Model_way_61 ?_
          refine lv_aload_n hx hb d_Model_way_64 rfl (lv_at hl 0 rfl) ?_
          refine va_get (D := (dC, dI)) (ci := 5) (v := .int (nI VM3)) (C := R_Model) (T := T_Model) (N := 30) hx hb hG in_Model hown hK hP 0 rfl rfl 13 (by decide) (hG _ m_627) (fun _ h9 => h9) rfl d_Model_way_65 ?_
          refine lv_lload_n hx hb d_Model_way_68 rfl (lv_at hl 2 rfl) ?_
          refine hw_last (f := LM7) hx hb hK hP hD hS 12 1 rfl rfl (by decide) (by omega) d_Model_way_69 (fun H locs hP hD hS => ?_)
          have hP : va_P (dC, dI) vwCl (w_M cI cJ cZ aM 0 VM1 VM2 VM3 VM4 VM5 WM0 NM0 NM1 NM2 LM0 LM1 LM2 LM3 LM4 LM5 (vp_updL LM6 VM3 x1) (vp_updL LM7 VM3 x3) LM8 LM9 LM10 LM11 LM12 LM13 LM14 LM15 IM0 IM1 IM2 IM3) H := hP
          have hD : va_D A (w_M cI cJ cZ aM 0 VM1 VM2 VM3 VM4 VM5 WM0 NM0 NM1 NM2 LM0 LM1 LM2 LM3 LM4 LM5 (vp_updL LM6 VM3 x1) (vp_updL LM7 VM3 x3) LM8 LM9 LM10 LM11 LM12 LM13 LM14 LM15 IM0 IM1 IM2 IM3) := hD
          refine lv_aload_n hx hb d_Model_way_70 rfl (lv_at hl 0 rfl) ?_
          refine va_get (D := (dC, dI)) (ci := 5) (v := .ref (aM 13)) (C := R_Model) (T := T_Model) (N := 30) hx hb hG in_Model hown hK hP 0 rfl rfl 16 (by decide) (hG _ m_630) (fun _ h9 => h9) rfl d_Model_way_71 ?_
          refine lv_aload_n hx hb d_Model_way_74 rfl (lv_at hl 0 rfl) ?_
          refine va_get (D := (dC, dI)) (ci := 5) (v := .int (nI VM3)) (C := R_Model) (T := T_Model) (N := 30) hx hb hG in_Model hown hK hP 0 rfl rfl 13 (by decide) (hG _ m_627) (fun _ h9 => h9) rfl d_Model_way_75 ?_
          refine lv_lload hx hb d_Model_way_78 (lv_at hl 3 rfl) ?_
          refine hw_last (f := LM8) hx hb hK hP hD hS 13 1 rfl rfl (by decide) (by omega) d_Model_way_80 (fun H locs hP hD hS => ?_)
          have hP : va_P (dC, dI) vwCl (w_M cI cJ cZ aM 0 VM1 VM2 VM3 VM4 VM5 WM0 NM0 NM1 NM2 LM0 LM1 LM2 LM3 LM4 LM5 (vp_updL LM6 VM3 x1) (vp_updL LM7 VM3 x3) (vp_updL LM8 VM3 x5) LM9 LM10 LM11 LM12 LM13 LM14 LM15 IM0 IM1 IM2 IM3) H := hP
          have hD : va_D A (w_M cI cJ cZ aM 0 VM1 VM2 VM3 VM4 VM5 WM0 NM0 NM1 NM2 LM0 LM1 LM2 LM3 LM4 LM5 (vp_updL LM6 VM3 x1) (vp_updL LM7 VM3 x3) (vp_updL LM8 VM3 x5) LM9 LM10 LM11 LM12 LM13 LM14 LM15 IM0 IM1 IM2 IM3) := hD
          refine lv_aload_n hx hb d_Model_way_81 rfl (lv_at hl 0 rfl) ?_
          refine lv_dup hx hb d_Model_way_82 rfl ?_
          refine va_get (D := (dC, dI)) (ci := 5) (v := .int (nI VM3)) (C := R_Model) (T := T_Model) (N := 30) hx hb hG in_Model hown hK hP 0 rfl rfl 13 (by decide) (hG _ m_627) (fun _ h9 => h9) rfl d_Model_way_83 ?_
          refine lv_iconst (v := nI 1) hx hb d_Model_way_86 (by decide) ?_
          refine hw_iadd hx hb d_Model_way_87 ?_
          refine va_put (D := (dC, dI)) (ci := 5) (v := .int (nI (VM3 + 1))) (ty := .int) (C := R_Model) (T := T_Model) (N := 30) hx hb hG in_Model ty_Model tok_Model nok_Model hown hK hP hD hS 0 rfl rfl 13 (by decide) (hG _ m_627) (fun _ h9 => h9) rfl (by decide +kernel) rfl rfl (Nat.le_of_ble_eq_true rfl) d_Model_way_88 (fun H locs hP hD hS => ?_)
          have hP : va_P (dC, dI) vwCl (w_M cI cJ cZ aM 0 VM1 VM2 (VM3 + 1) VM4 VM5 WM0 NM0 NM1 NM2 LM0 LM1 LM2 LM3 LM4 LM5 (vp_updL LM6 VM3 x1) (vp_updL LM7 VM3 x3) (vp_updL LM8 VM3 x5) LM9 LM10 LM11 LM12 LM13 LM14 LM15 IM0 IM1 IM2 IM3) H := hP
          have hD : va_D A (w_M cI cJ cZ aM 0 VM1 VM2 (VM3 + 1) VM4 VM5 WM0 NM0 NM1 NM2 LM0 LM1 LM2 LM3 LM4 LM5 (vp_updL LM6 VM3 x1) (vp_updL LM7 VM3 x3) (vp_updL LM8 VM3 x5) LM9 LM10 LM11 LM12 LM13 LM14 LM15 IM0 IM1 IM2 IM3) := hD
          refine lv_aload_n hx hb d_Model_way_91 rfl (lv_at hl 0 rfl) ?_
          refine lv_iconst (v := nI 0) hx hb d_Model_way_92 (by decide) ?_
          refine va_put (D := (dC, dI)) (ci := 5) (v := .int (nI 0)) (ty := .int) (C := R_Model) (T := T_Model) (N := 30) hx hb hG in_Model ty_Model tok_Model nok_Model hown hK hP hD hS 0 rfl rfl 22 (by decide) (hG _ m_636) (fun _ h9 => h9) rfl (by decide +kernel) rfl rfl (Nat.le_of_ble_eq_true rfl) d_Model_way_93 (fun H locs hP hD hS => ?_)
          have hP : va_P (dC, dI) vwCl (w_M cI cJ cZ aM 0 VM1 VM2 (VM3 + 1) VM4 0 WM0 NM0 NM1 NM2 LM0 LM1 LM2 LM3 LM4 LM5 (vp_updL LM6 VM3 x1) (vp_updL LM7 VM3 x3) (vp_updL LM8 VM3 x5) LM9 LM10 LM11 LM12 LM13 LM14 LM15 IM0 IM1 IM2 IM3) H := hP
          have hD : va_D A (w_M cI cJ cZ aM 0 VM1 VM2 (VM3 + 1) VM4 0 WM0 NM0 NM1 NM2 LM0 LM1 LM2 LM3 LM4 LM5 (vp_updL LM6 VM3 x1) (vp_updL LM7 VM3 x3) (vp_updL LM8 VM3 x5) LM9 LM10 LM11 LM12 LM13 LM14 LM15 IM0 IM1 IM2 IM3) := hD
          refine lv_aload_n hx hb d_Model_way_96 rfl (lv_at hl 0 rfl) ?_
          refine va_get (D := (dC, dI)) (ci := 5) (v := .int (nI (VM3 + 1))) (C := R_Model) (T := T_Model) (N := 30) hx hb hG in_Model hown hK hP 0 rfl rfl 13 (by decide) (hG _ m_627) (fun _ h9 => h9) rfl d_Model_way_97 ?_
          refine lv_iconst (v := nI 1) hx hb d_Model_way_100 (by decide) ?_
          refine hw_isub hx hb d_Model_way_101 (by omega) ?_
          subst hR
          exact W.iret (v := nI ((VM3 + 1) - 1)) hx hb hr (fun t ht hW => ⟨⟨_, (), rfl, rfl, by rw [ht]; exact hP, va_K.moved hW.alike hK, hD⟩, hS.F ht⟩) hS.2.2 d_Model_way_102
        · replace hR := (if_pos c45).symm.trans hR
          refine lv_iconst (v := (-1)) hx hb d_Model_way_48 (by decide) ?_
          subst hR
          exact W.iret (v := (-1)) hx hb hr (fun t ht hW => ⟨⟨_, (), rfl, rfl, by rw [ht]; exact hP, va_K.moved hW.alike hK, hD⟩, hS.F ht⟩) hS.2.2 d_Model_way_49
def f_Model_bar_h51B (x3 : Int32) (x1 : Int32) (k_51 : (Nat) → (Nat → Int32) → Int32 × (Nat) × (Nat) × (Nat → Int32)) (rec_51 : (Nat) → (Nat → Int32) → Int32 × (Nat) × (Nat) × (Nat → Int32)) (x4_51 : Nat) (IM1_51 : Nat → Int32) : Int32 × (Nat) × (Nat) × (Nat → Int32) :=
  if x3.toNatClampNeg < x4_51 then (k_51 x4_51 IM1_51) else (rec_51 (x4_51 + 1) (upd IM1_51 ((12 * x1.toNatClampNeg) + x4_51) (nI 1)))
def f_Model_bar_h51 (x3 : Int32) (x1 : Int32) (k_51 : (Nat) → (Nat → Int32) → Int32 × (Nat) × (Nat) × (Nat → Int32)) : Nat → (Nat) → (Nat → Int32) → Int32 × (Nat) × (Nat) × (Nat → Int32)
  | 0, x4_51, IM1_51 => k_51 x4_51 IM1_51
  | n + 1, x4_51, IM1_51 => f_Model_bar_h51B x3 x1 k_51 (fun x4_51 IM1_51 => f_Model_bar_h51 x3 x1 k_51 n x4_51 IM1_51) x4_51 IM1_51
def f_Model_bar_x51  (x4_51 : Nat) (IM1_51 : Nat → Int32) : Int32 × (Nat) × (Nat) × (Nat → Int32) :=
  (nI 1, 0, 0, IM1_51)
def f_Model_bar (VM3 : Nat) (VM5 : Nat) (IM1 : Nat → Int32) (x1 : Int32) (x2 : Int32) (x3 : Int32) : Int32 × (Nat) × (Nat) × (Nat → Int32) :=
  hh_bind (f_Model_isIn x1.toInt64 0 (((nI VM3).toInt64) - 1)) (fun y15 => if y15 = 0 then (nI 0, 0, VM5, IM1) else (hh_bind (f_Model_isIn x2.toInt64 0 11) (fun y27 => if y27 = 0 then (nI 0, 0, VM5, IM1) else (hh_bind (f_Model_isIn x3.toInt64 x2.toInt64 11) (fun y40 => if y40 = 0 then (nI 0, 0, VM5, IM1) else (f_Model_bar_h51 x3 x1 f_Model_bar_x51 13 x2.toNatClampNeg IM1))))))
set_option maxHeartbeats 4000000 in
set_option maxRecDepth 100000 in
theorem c_Model_bar (l : Launch) (dC : Nat → ClassId) (dI : Nat → Nat → Nat) (cI cJ cZ : ClassId) (sz : Nat) (aM : Nat → Nat) (VM0 : Nat) (VM1 : Nat) (VM2 : Nat) (VM3 : Nat) (VM4 : Nat) (VM5 : Nat) (WM0 : Int64) (NM0 : Nat → Nat) (NM1 : Nat → Nat) (NM2 : Nat → Nat) (LM0 : Nat → Int64) (LM1 : Nat → Int64) (LM2 : Nat → Int64) (LM3 : Nat → Int64) (LM4 : Nat → Int64) (LM5 : Nat → Int64) (LM6 : Nat → Int64) (LM7 : Nat → Int64) (LM8 : Nat → Int64) (LM9 : Nat → Int64) (LM10 : Nat → Int64) (LM11 : Nat → Int64) (LM12 : Nat → Int64) (LM13 : Nat → Int64) (LM14 : Nat → Int64) (LM15 : Nat → Int64) (IM0 : Nat → Int32) (IM1 : Nat → Int32) (IM2 : Nat → Int32) (IM3 : Nat → Int32) (x1 : Int32) (x2 : Int32) (x3 : Int32) (m1 : VM1 ≤ 8) (m2 : VM2 ≤ 8) (m3 : VM3 ≤ 6) (m4 : VM4 ≤ 4) (mk4 : ∀ i, NM0 i < 4) (mcw : ∀ i, NM1 i < 12) (mfw : ∀ i, NM2 i < 12) (msb : ∀ i, i < 4 → ¬ LM5 i = 0) (m5 : VM5 ≤ 2) : hh_Ci l y_Model_bar u_Model_bar ({ frames := 1, cells := 0, slots := 0, locals := 25 }) (dC, dI) vwCl [(cI, .int), (cJ, .long), (cZ, .boolean)] (w_M cI cJ cZ aM VM0 VM1 VM2 VM3 VM4 VM5 WM0 NM0 NM1 NM2 LM0 LM1 LM2 LM3 LM4 LM5 LM6 LM7 LM8 LM9 LM10 LM11 LM12 LM13 LM14 LM15 IM0 IM1 IM2 IM3) sz [.ref (aM 0), .int x1, .int x2, .int x3] ((f_Model_bar VM3 VM5 IM1 x1 x2 x3).1) (w_M cI cJ cZ aM ((f_Model_bar VM3 VM5 IM1 x1 x2 x3).2.1) VM1 VM2 VM3 VM4 ((f_Model_bar VM3 VM5 IM1 x1 x2 x3).2.2.1) WM0 NM0 NM1 NM2 LM0 LM1 LM2 LM3 LM4 LM5 LM6 LM7 LM8 LM9 LM10 LM11 LM12 LM13 LM14 LM15 IM0 ((f_Model_bar VM3 VM5 IM1 x1 x2 x3).2.2.2) IM2 IM3) 0 0 := by
  unfold hh_Ci
  refine Met.ofW (cc := b_Model_bar) (maxL := 5) (ret := (some .boolean)) (by decide) rfl ?_
  intro p e s m args below meth c s₁ B hml hv
  obtain ⟨rfl, hsz, hP, hK, hD0⟩ := hv
  have hx := B.exec
  have hb := B.bytes
  have hr := B.returns
  have hts := atoms_spec (ws := u_Model_bar) B.pre
  have hG : ∀ w ∈ wG, w.before ([.ref (aM 0), .int x1, .int x2, .int x3]).toArray s = true := fun w h => hts w (List.mem_cons_of_mem _ h)
  have hown : s.vm.findClass R_Model = some m.cls := findClass_of_methodNamed B.named
  have hlocks := B.notSynchronized
  subst hsz
  have hD := hD0.self (sz := s.heap.size)
  generalize hAe : va_A (w_M cI cJ cZ aM VM0 VM1 VM2 VM3 VM4 VM5 WM0 NM0 NM1 NM2 LM0 LM1 LM2 LM3 LM4 LM5 LM6 LM7 LM8 LM9 LM10 LM11 LM12 LM13 LM14 LM15 IM0 IM1 IM2 IM3) s.heap.size = A at hD ⊢
  have hA : ∀ q : Nat, s.heap.size ≤ q → A q := fun q h => by rw [← hAe]; exact Or.inr h
  have hS : va_S A s.heap s.heap [] := va_S.rf
  have hl := lv_entry ([.ref (aM 0), .int x1, .int x2, .int x3]) (n := 5) (Nat.le_of_ble_eq_true rfl)
  rw [lg_entry_eq]
  generalize (lg_sl ([.ref (aM 0), .int x1, .int x2, .int x3]) ++ List.replicate (5 - (lg_sl ([.ref (aM 0), .int x1, .int x2, .int x3])).length) Slot.unset).toArray = ls at hl ⊢
  have hl : lv_has ls 5 [(0, .ref (aM 0)), (1, .int x1), (2, .int x2), (3, .int x3)] := hl
  generalize hR : f_Model_bar VM3 VM5 IM1 x1 x2 x3 = r0
  obtain ⟨H, locs, hHe, hle⟩ : ∃ (H : Heap) (locs : List Loc), s.heap = H ∧ [] = locs := ⟨_, _, rfl, rfl⟩
  have hP : va_P (dC, dI) vwCl (w_M cI cJ cZ aM VM0 VM1 VM2 VM3 VM4 VM5 WM0 NM0 NM1 NM2 LM0 LM1 LM2 LM3 LM4 LM5 LM6 LM7 LM8 LM9 LM10 LM11 LM12 LM13 LM14 LM15 IM0 IM1 IM2 IM3) H := by rw [← hHe]; exact hP
  have hS : va_S A s.heap H locs := by rw [← hHe, ← hle]; exact hS
  refine hw_start hHe hle ?_
  unfold f_Model_bar at hR
  refine lv_aload_n hx hb d_Model_bar_0 rfl (lv_at hl 0 rfl) ?_
  refine lv_iconst (v := nI 0) hx hb d_Model_bar_1 (by decide) ?_
  refine va_put (D := (dC, dI)) (ci := 5) (v := .int (nI 0)) (ty := .int) (C := R_Model) (T := T_Model) (N := 30) hx hb hG in_Model ty_Model tok_Model nok_Model hown hK hP hD hS 0 rfl rfl 0 (by decide) (hG _ m_614) (fun _ h9 => h9) rfl (by decide +kernel) rfl rfl (Nat.le_of_ble_eq_true rfl) d_Model_bar_2 (fun H locs hP hD hS => ?_)
  have hP : va_P (dC, dI) vwCl (w_M cI cJ cZ aM 0 VM1 VM2 VM3 VM4 VM5 WM0 NM0 NM1 NM2 LM0 LM1 LM2 LM3 LM4 LM5 LM6 LM7 LM8 LM9 LM10 LM11 LM12 LM13 LM14 LM15 IM0 IM1 IM2 IM3) H := hP
  have hD : va_D A (w_M cI cJ cZ aM 0 VM1 VM2 VM3 VM4 VM5 WM0 NM0 NM1 NM2 LM0 LM1 LM2 LM3 LM4 LM5 LM6 LM7 LM8 LM9 LM10 LM11 LM12 LM13 LM14 LM15 IM0 IM1 IM2 IM3) := hD
  refine lv_iload_n hx hb d_Model_bar_5 rfl (lv_at hl 1 rfl) ?_
  refine lv_i2l (v := x1.toInt64) hx hb d_Model_bar_6 rfl ?_
  refine lv_lconst (v := 0) hx hb d_Model_bar_7 (by decide) ?_
  refine lv_aload_n hx hb d_Model_bar_8 rfl (lv_at hl 0 rfl) ?_
  refine va_get (D := (dC, dI)) (ci := 5) (v := .int (nI VM3)) (C := R_Model) (T := T_Model) (N := 30) hx hb hG in_Model hown hK hP 0 rfl rfl 13 (by decide) (hG _ m_627) (fun _ h9 => h9) rfl d_Model_bar_9 ?_
  refine lv_i2l (v := (nI VM3).toInt64) hx hb d_Model_bar_12 rfl ?_
  refine lv_lconst (v := 1) hx hb d_Model_bar_13 (by decide) ?_
  refine lv_lsub hx hb d_Model_bar_14 ?_
  obtain ⟨y15, hy15, hR⟩ := hw_bind hR
  have hM := c_Model_isIn l dC dI cI cJ cZ H.size x1.toInt64 0 (((nI VM3).toInt64) - 1)
  rw [hy15] at hM
  refine hw_callSi (As := [.long x1.toInt64, .long 0, .long (((nI VM3).toInt64) - 1)]) (rest := []) (wr := w_M cI cJ cZ aM 0 VM1 VM2 VM3 VM4 VM5 WM0 NM0 NM1 NM2 LM0 LM1 LM2 LM3 LM4 LM5 LM6 LM7 LM8 LM9 LM10 LM11 LM12 LM13 LM14 LM15 IM0 IM1 IM2 IM3) ⟨hx, hb, hml, hown, hG⟩ hM (hw_cwS 3 hG m_714 m_715 m_7 m_716 rfl rfl (by decide +kernel) ⟨Nat.le_of_ble_eq_true rfl, Nat.le_of_ble_eq_true rfl⟩) hK hP hD hS hA [] [0, 1, 2, 3, 4, 5, 6, 7, 8, 9, 10, 11, 12, 13, 14, 15, 16, 17, 18, 19, 20, 21, 22, 23] rfl rfl (by decide) (by decide) (by decide) rfl hl.1 rfl (Nat.le_of_ble_eq_true rfl) d_Model_bar_15 ⟨Nat.le_of_ble_eq_true rfl, Nat.le_of_ble_eq_true rfl⟩ (fun H locs hP hD hS => ?_)
  have hP : va_P (dC, dI) vwCl (w_M cI cJ cZ aM 0 VM1 VM2 VM3 VM4 VM5 WM0 NM0 NM1 NM2 LM0 LM1 LM2 LM3 LM4 LM5 LM6 LM7 LM8 LM9 LM10 LM11 LM12 LM13 LM14 LM15 IM0 IM1 IM2 IM3) H := hP
  have hD : va_D A (w_M cI cJ cZ aM 0 VM1 VM2 VM3 VM4 VM5 WM0 NM0 NM1 NM2 LM0 LM1 LM2 LM3 LM4 LM5 LM6 LM7 LM8 LM9 LM10 LM11 LM12 LM13 LM14 LM15 IM0 IM1 IM2 IM3) := hD
  have hbl15 := hm_in (x := x1) (n := VM3) (hi := ((nI VM3).toInt64) - 1) (hm_fm (by omega))
  rw [hy15] at hbl15
  refine lv_if_eq (tgt := 46) hx hb d_Model_bar_18 (by decide) (fun c18 => ?_) (fun c18 => ?_)
  · replace hR := (if_pos c18).symm.trans hR
    refine lv_iconst (v := nI 0) hx hb d_Model_bar_46 (by decide) ?_
    subst hR
    exact W.zret (v := nI 0) hx hb hr (by decide) (fun t ht hW => ⟨⟨_, (), rfl, rfl, by rw [ht]; exact hP, va_K.moved hW.alike hK, hD⟩, hS.F ht⟩) hS.2.2 d_Model_bar_47
  · replace hR := (if_neg c18).symm.trans hR
    refine lv_iload_n hx hb d_Model_bar_21 rfl (lv_at hl 2 rfl) ?_
    refine lv_i2l (v := x2.toInt64) hx hb d_Model_bar_22 rfl ?_
    refine lv_lconst (v := 0) hx hb d_Model_bar_23 (by decide) ?_
    refine lv_ldc2 (v := 11) hx hb hown (hG _ m_718) d_Model_bar_24 ?_
    obtain ⟨y27, hy27, hR⟩ := hw_bind hR
    have hM := c_Model_isIn l dC dI cI cJ cZ H.size x2.toInt64 0 11
    rw [hy27] at hM
    refine hw_callSi (As := [.long x2.toInt64, .long 0, .long 11]) (rest := []) (wr := w_M cI cJ cZ aM 0 VM1 VM2 VM3 VM4 VM5 WM0 NM0 NM1 NM2 LM0 LM1 LM2 LM3 LM4 LM5 LM6 LM7 LM8 LM9 LM10 LM11 LM12 LM13 LM14 LM15 IM0 IM1 IM2 IM3) ⟨hx, hb, hml, hown, hG⟩ hM (hw_cwS 3 hG m_714 m_715 m_7 m_716 rfl rfl (by decide +kernel) ⟨Nat.le_of_ble_eq_true rfl, Nat.le_of_ble_eq_true rfl⟩) hK hP hD hS hA [] [0, 1, 2, 3, 4, 5, 6, 7, 8, 9, 10, 11, 12, 13, 14, 15, 16, 17, 18, 19, 20, 21, 22, 23] rfl rfl (by decide) (by decide) (by decide) rfl hl.1 rfl (Nat.le_of_ble_eq_true rfl) d_Model_bar_27 ⟨Nat.le_of_ble_eq_true rfl, Nat.le_of_ble_eq_true rfl⟩ (fun H locs hP hD hS => ?_)
    have hP : va_P (dC, dI) vwCl (w_M cI cJ cZ aM 0 VM1 VM2 VM3 VM4 VM5 WM0 NM0 NM1 NM2 LM0 LM1 LM2 LM3 LM4 LM5 LM6 LM7 LM8 LM9 LM10 LM11 LM12 LM13 LM14 LM15 IM0 IM1 IM2 IM3) H := hP
    have hD : va_D A (w_M cI cJ cZ aM 0 VM1 VM2 VM3 VM4 VM5 WM0 NM0 NM1 NM2 LM0 LM1 LM2 LM3 LM4 LM5 LM6 LM7 LM8 LM9 LM10 LM11 LM12 LM13 LM14 LM15 IM0 IM1 IM2 IM3) := hD
    have hbl27 := hm_in (x := x2) (n := 12) (hi := 11) (by decide)
    rw [hy27] at hbl27
    refine lv_if_eq (tgt := 46) hx hb d_Model_bar_30 (by decide) (fun c30 => ?_) (fun c30 => ?_)
    · replace hR := (if_pos c30).symm.trans hR
      refine lv_iconst (v := nI 0) hx hb d_Model_bar_46 (by decide) ?_
      subst hR
      exact W.zret (v := nI 0) hx hb hr (by decide) (fun t ht hW => ⟨⟨_, (), rfl, rfl, by rw [ht]; exact hP, va_K.moved hW.alike hK, hD⟩, hS.F ht⟩) hS.2.2 d_Model_bar_47
    · replace hR := (if_neg c30).symm.trans hR
      refine lv_iload_n hx hb d_Model_bar_33 rfl (lv_at hl 3 rfl) ?_
      refine lv_i2l (v := x3.toInt64) hx hb d_Model_bar_34 rfl ?_
      refine lv_iload_n hx hb d_Model_bar_35 rfl (lv_at hl 2 rfl) ?_
      refine lv_i2l (v := x2.toInt64) hx hb d_Model_bar_36 rfl ?_
      refine lv_ldc2 (v := 11) hx hb hown (hG _ m_718) d_Model_bar_37 ?_
      obtain ⟨y40, hy40, hR⟩ := hw_bind hR
      have hM := c_Model_isIn l dC dI cI cJ cZ H.size x3.toInt64 x2.toInt64 11
      rw [hy40] at hM
      refine hw_callSi (As := [.long x3.toInt64, .long x2.toInt64, .long 11]) (rest := []) (wr := w_M cI cJ cZ aM 0 VM1 VM2 VM3 VM4 VM5 WM0 NM0 NM1 NM2 LM0 LM1 LM2 LM3 LM4 LM5 LM6 LM7 LM8 LM9 LM10 LM11 LM12 LM13 LM14 LM15 IM0 IM1 IM2 IM3) ⟨hx, hb, hml, hown, hG⟩ hM (hw_cwS 3 hG m_714 m_715 m_7 m_716 rfl rfl (by decide +kernel) ⟨Nat.le_of_ble_eq_true rfl, Nat.le_of_ble_eq_true rfl⟩) hK hP hD hS hA [] [0, 1, 2, 3, 4, 5, 6, 7, 8, 9, 10, 11, 12, 13, 14, 15, 16, 17, 18, 19, 20, 21, 22, 23] rfl rfl (by decide) (by decide) (by decide) rfl hl.1 rfl (Nat.le_of_ble_eq_true rfl) d_Model_bar_40 ⟨Nat.le_of_ble_eq_true rfl, Nat.le_of_ble_eq_true rfl⟩ (fun H locs hP hD hS => ?_)
      have hP : va_P (dC, dI) vwCl (w_M cI cJ cZ aM 0 VM1 VM2 VM3 VM4 VM5 WM0 NM0 NM1 NM2 LM0 LM1 LM2 LM3 LM4 LM5 LM6 LM7 LM8 LM9 LM10 LM11 LM12 LM13 LM14 LM15 IM0 IM1 IM2 IM3) H := hP
      have hD : va_D A (w_M cI cJ cZ aM 0 VM1 VM2 VM3 VM4 VM5 WM0 NM0 NM1 NM2 LM0 LM1 LM2 LM3 LM4 LM5 LM6 LM7 LM8 LM9 LM10 LM11 LM12 LM13 LM14 LM15 IM0 IM1 IM2 IM3) := hD
      have hbl40 := hm_in2 (x := x3) (lo := x2) (n := 12) (hi := 11) (by decide)
      rw [hy40] at hbl40
      refine lv_if_ne (tgt := 48) hx hb d_Model_bar_43 (by decide) (fun c43 => ?_) (fun c43 => ?_)
      · replace hR := (if_neg c43).symm.trans hR
        obtain ⟨hna1, hnb1⟩ := hbl15 c18
        obtain ⟨hna2, hnb2⟩ := hbl27 c30
        obtain ⟨hna3, hnb3⟩ := hbl40 hna2 c43
        have en48_1 : nI (x1.toNatClampNeg) = x1 := hw_nat hna1
        have hl : lv_has ls 5 [(0, .ref (aM 0)), (1, .int (nI x1.toNatClampNeg)), (2, .int x2), (3, .int x3)] := by rw [en48_1]; exact hl
        have en48_2 : nI (x2.toNatClampNeg) = x2 := hw_nat hna2
        have hl : lv_has ls 5 [(0, .ref (aM 0)), (1, .int (nI x1.toNatClampNeg)), (2, .int (nI x2.toNatClampNeg)), (3, .int x3)] := by rw [en48_2]; exact hl
        have en48_3 : nI (x3.toNatClampNeg) = x3 := hw_nat hna3
        have hl : lv_has ls 5 [(0, .ref (aM 0)), (1, .int (nI x1.toNatClampNeg)), (2, .int (nI x2.toNatClampNeg)), (3, .int (nI x3.toNatClampNeg))] := by rw [en48_3]; exact hl
        refine lv_iload_n hx hb d_Model_bar_48 rfl (lv_at hl 2 rfl) ?_
        refine lv_istore (lv' := [(4, .int (nI x2.toNatClampNeg)), (0, .ref (aM 0)), (1, .int (nI x1.toNatClampNeg)), (2, .int (nI x2.toNatClampNeg)), (3, .int (nI x3.toNatClampNeg))]) hx hb d_Model_bar_49 hl (by decide) rfl (fun ls hl => ?_)
        obtain ⟨k_51, hk_51, hR⟩ : ∃ k, f_Model_bar_x51 = k ∧ f_Model_bar_h51 x3 x1 k 13 x2.toNatClampNeg IM1 = r0 := ⟨_, rfl, hR⟩
        have X_51 : ∀ (x4_51 : Nat) (IM1_51 : Nat → Int32) (hi : x4_51 ≤ 12) (H : Heap) (locs : List Loc) (hP : va_P (dC, dI) vwCl (w_M cI cJ cZ aM 0 VM1 VM2 VM3 VM4 VM5 WM0 NM0 NM1 NM2 LM0 LM1 LM2 LM3 LM4 LM5 LM6 LM7 LM8 LM9 LM10 LM11 LM12 LM13 LM14 LM15 IM0 IM1_51 IM2 IM3) H) (hD : va_D A (w_M cI cJ cZ aM 0 VM1 VM2 VM3 VM4 VM5 WM0 NM0 NM1 NM2 LM0 LM1 LM2 LM3 LM4 LM5 LM6 LM7 LM8 LM9 LM10 LM11 LM12 LM13 LM14 LM15 IM0 IM1_51 IM2 IM3)) (hS : va_S A s.heap H locs) (ls : Array Slot) (hl : lv_has ls 5 [(0, .ref (aM 0)), (1, .int (nI x1.toNatClampNeg)), (2, .int (nI x2.toNatClampNeg)), (3, .int (nI x3.toNatClampNeg)), (4, .int (nI x4_51))]) (hR : k_51 x4_51 IM1_51 = r0), W p l e (headSpec u_Model_bar ({ frames := 1, cells := 0, slots := 0, locals := 25 })).room s m ([.ref (aM 0), .int x1, .int x2, .int x3]).toArray below meth c H locs 0 0 (hh_Zi below (dC, dI) vwCl [(cI, .int), (cJ, .long), (cZ, .boolean)] A r0.1 (w_M cI cJ cZ aM r0.2.1 VM1 VM2 VM3 VM4 r0.2.2.1 WM0 NM0 NM1 NM2 LM0 LM1 LM2 LM3 LM4 LM5 LM6 LM7 LM8 LM9 LM10 LM11 LM12 LM13 LM14 LM15 IM0 r0.2.2.2 IM2 IM3) ([.ref (aM 0), .int x1, .int x2, .int x3]).toArray s) (F0 m 76 ls []) := by
          intro x4_51 IM1_51 hi H locs hP hD hS ls hl hR
          rw [← hk_51] at hR
          unfold f_Model_bar_x51 at hR
          refine lv_aload_n hx hb d_Model_bar_76 rfl (lv_at hl 0 rfl) ?_
          refine lv_iconst (v := nI 0) hx hb d_Model_bar_77 (by decide) ?_
          refine va_put (D := (dC, dI)) (ci := 5) (v := .int (nI 0)) (ty := .int) (C := R_Model) (T := T_Model) (N := 30) hx hb hG in_Model ty_Model tok_Model nok_Model hown hK hP hD hS 0 rfl rfl 22 (by decide) (hG _ m_636) (fun _ h9 => h9) rfl (by decide +kernel) rfl rfl (Nat.le_of_ble_eq_true rfl) d_Model_bar_78 (fun H locs hP hD hS => ?_)
          have hP : va_P (dC, dI) vwCl (w_M cI cJ cZ aM 0 VM1 VM2 VM3 VM4 0 WM0 NM0 NM1 NM2 LM0 LM1 LM2 LM3 LM4 LM5 LM6 LM7 LM8 LM9 LM10 LM11 LM12 LM13 LM14 LM15 IM0 IM1_51 IM2 IM3) H := hP
          have hD : va_D A (w_M cI cJ cZ aM 0 VM1 VM2 VM3 VM4 0 WM0 NM0 NM1 NM2 LM0 LM1 LM2 LM3 LM4 LM5 LM6 LM7 LM8 LM9 LM10 LM11 LM12 LM13 LM14 LM15 IM0 IM1_51 IM2 IM3) := hD
          refine lv_iconst (v := nI 1) hx hb d_Model_bar_81 (by decide) ?_
          subst hR
          exact W.zret (v := nI 1) hx hb hr (by decide) (fun t ht hW => ⟨⟨_, (), rfl, rfl, by rw [ht]; exact hP, va_K.moved hW.alike hK, hD⟩, hS.F ht⟩) hS.2.2 d_Model_bar_82
        have L_51 : ∀ (n : Nat) (x4_51 : Nat) (IM1_51 : Nat → Int32) (hi : x4_51 ≤ 12) (hfu : 12 - x4_51 < n) (H : Heap) (locs : List Loc) (hP : va_P (dC, dI) vwCl (w_M cI cJ cZ aM 0 VM1 VM2 VM3 VM4 VM5 WM0 NM0 NM1 NM2 LM0 LM1 LM2 LM3 LM4 LM5 LM6 LM7 LM8 LM9 LM10 LM11 LM12 LM13 LM14 LM15 IM0 IM1_51 IM2 IM3) H) (hD : va_D A (w_M cI cJ cZ aM 0 VM1 VM2 VM3 VM4 VM5 WM0 NM0 NM1 NM2 LM0 LM1 LM2 LM3 LM4 LM5 LM6 LM7 LM8 LM9 LM10 LM11 LM12 LM13 LM14 LM15 IM0 IM1_51 IM2 IM3)) (hS : va_S A s.heap H locs) (ls : Array Slot) (hl : lv_has ls 5 [(0, .ref (aM 0)), (1, .int (nI x1.toNatClampNeg)), (2, .int (nI x2.toNatClampNeg)), (3, .int (nI x3.toNatClampNeg)), (4, .int (nI x4_51))]) (hR : f_Model_bar_h51 x3 x1 k_51 n x4_51 IM1_51 = r0), W p l e (headSpec u_Model_bar ({ frames := 1, cells := 0, slots := 0, locals := 25 })).room s m ([.ref (aM 0), .int x1, .int x2, .int x3]).toArray below meth c H locs 0 0 (hh_Zi below (dC, dI) vwCl [(cI, .int), (cJ, .long), (cZ, .boolean)] A r0.1 (w_M cI cJ cZ aM r0.2.1 VM1 VM2 VM3 VM4 r0.2.2.1 WM0 NM0 NM1 NM2 LM0 LM1 LM2 LM3 LM4 LM5 LM6 LM7 LM8 LM9 LM10 LM11 LM12 LM13 LM14 LM15 IM0 r0.2.2.2 IM2 IM3) ([.ref (aM 0), .int x1, .int x2, .int x3]).toArray s) (F0 m 51 ls []) := by
          intro n
          induction n with
          | zero =>
            intro x4_51 IM1_51 hi hfu H locs hP hD hS ls hl hR
            exact absurd hfu (Nat.not_lt_zero _)
          | succ n ih_51 =>
            intro x4_51 IM1_51 hi hfu H locs hP hD hS ls hl hR
            rw [f_Model_bar_h51] at hR
            obtain ⟨rec_51, hrec_51, hR⟩ : ∃ r, r = _ ∧ f_Model_bar_h51B x3 x1 k_51 r x4_51 IM1_51 = r0 := ⟨_, rfl, hR⟩
            unfold f_Model_bar_h51B at hR
            refine lv_iload hx hb d_Model_bar_51 (lv_at hl 4 rfl) ?_
            refine lv_iload_n hx hb d_Model_bar_53 rfl (lv_at hl 3 rfl) ?_
            refine hw_icmp_gt (tgt := 76) hx hb d_Model_bar_54 (by decide) (by omega) (by omega) (fun c54 => ?_) (fun c54 => ?_)
            · replace hR := (if_pos c54).symm.trans hR
              exact X_51 x4_51 IM1_51 (by first | assumption | omega | exact hw_upb (by assumption) (by omega)) H locs hP hD hS ls (lv_sub hl [0, 1, 2, 3, 4] rfl) hR
            · replace hR := (if_neg c54).symm.trans hR
              refine lv_aload_n hx hb d_Model_bar_57 rfl (lv_at hl 0 rfl) ?_
              refine va_get (D := (dC, dI)) (ci := 5) (v := .ref (aM 14)) (C := R_Model) (T := T_Model) (N := 30) hx hb hG in_Model hown hK hP 0 rfl rfl 17 (by decide) (hG _ m_631) (fun _ h9 => h9) rfl d_Model_bar_58 ?_
              refine lv_bipush (v := nI 12) hx hb d_Model_bar_61 (by decide) ?_
              refine lv_iload_n hx hb d_Model_bar_63 rfl (lv_at hl 1 rfl) ?_
              refine hw_imul hx hb d_Model_bar_64 ?_
              refine lv_iload hx hb d_Model_bar_65 (lv_at hl 4 rfl) ?_
              refine hw_iadd hx hb d_Model_bar_67 ?_
              refine lv_iconst (v := nI 1) hx hb d_Model_bar_68 (by decide) ?_
              refine hw_zast (f := IM1_51) hx hb hK hP hD hS 14 2 rfl rfl (by decide) (by omega) (by decide) d_Model_bar_69 (fun H locs hP hD hS => ?_)
              have hP : va_P (dC, dI) vwCl (w_M cI cJ cZ aM 0 VM1 VM2 VM3 VM4 VM5 WM0 NM0 NM1 NM2 LM0 LM1 LM2 LM3 LM4 LM5 LM6 LM7 LM8 LM9 LM10 LM11 LM12 LM13 LM14 LM15 IM0 (upd IM1_51 ((12 * x1.toNatClampNeg) + x4_51) (nI 1)) IM2 IM3) H := hP
              have hD : va_D A (w_M cI cJ cZ aM 0 VM1 VM2 VM3 VM4 VM5 WM0 NM0 NM1 NM2 LM0 LM1 LM2 LM3 LM4 LM5 LM6 LM7 LM8 LM9 LM10 LM11 LM12 LM13 LM14 LM15 IM0 (upd IM1_51 ((12 * x1.toNatClampNeg) + x4_51) (nI 1)) IM2 IM3) := hD
              refine lv_iinc (v := nI (x4_51 + 1)) (lv' := [(4, .int (nI (x4_51 + 1))), (0, .ref (aM 0)), (1, .int (nI x1.toNatClampNeg)), (2, .int (nI x2.toNatClampNeg)), (3, .int (nI x3.toNatClampNeg))]) hx hb d_Model_bar_70 hl (k := 4) rfl (hw_inc _ 1) (by decide) rfl (fun ls hl => ?_)
              refine lv_goto (tgt := 51) hx hb d_Model_bar_73 (by decide) ?_
              rw [hrec_51] at hR
              exact ih_51 (x4_51 + 1) (upd IM1_51 ((12 * x1.toNatClampNeg) + x4_51) (nI 1)) (by first | assumption | omega | exact hw_upb (by assumption) (by omega)) (by omega) H locs hP hD hS ls (lv_sub hl [1, 2, 3, 4, 0] rfl) hR
        exact L_51 13 x2.toNatClampNeg IM1 (by first | assumption | omega | exact hw_upb (by assumption) (by omega)) (by omega) H locs hP hD hS ls (lv_sub hl [1, 2, 3, 4, 0] rfl) hR
      · replace hR := (if_pos c43).symm.trans hR
        refine lv_iconst (v := nI 0) hx hb d_Model_bar_46 (by decide) ?_
        subst hR
        exact W.zret (v := nI 0) hx hb hr (by decide) (fun t ht hW => ⟨⟨_, (), rfl, rfl, by rw [ht]; exact hP, va_K.moved hW.alike hK, hD⟩, hS.F ht⟩) hS.2.2 d_Model_bar_47
def f_Model_borrow (VM4 : Nat) (VM5 : Nat) (LM9 : Nat → Int64) (LM10 : Nat → Int64) (x1 : Int64) (x3 : Int64) : Int32 × (Nat) × (Nat) × (Nat) × (Nat → Int64) × (Nat → Int64) :=
  hh_bind (f_Model_isIn x1 0 100000) (fun y10 => if y10 = 0 then ((-1), 0, VM4, VM5, LM9, LM10) else (hh_bind (f_Model_isIn x3 0 100000) (fun y21 => if y21 = 0 then ((-1), 0, VM4, VM5, LM9, LM10) else (if VM4 = 4 then ((-1), 0, VM4, VM5, LM9, LM10) else (nI ((VM4 + 1) - 1), 0, VM4 + 1, 0, vp_updL LM9 VM4 x1, vp_updL LM10 VM4 x3)))))
set_option maxHeartbeats 4000000 in
set_option maxRecDepth 100000 in
theorem c_Model_borrow (l : Launch) (dC : Nat → ClassId) (dI : Nat → Nat → Nat) (cI cJ cZ : ClassId) (sz : Nat) (aM : Nat → Nat) (VM0 : Nat) (VM1 : Nat) (VM2 : Nat) (VM3 : Nat) (VM4 : Nat) (VM5 : Nat) (WM0 : Int64) (NM0 : Nat → Nat) (NM1 : Nat → Nat) (NM2 : Nat → Nat) (LM0 : Nat → Int64) (LM1 : Nat → Int64) (LM2 : Nat → Int64) (LM3 : Nat → Int64) (LM4 : Nat → Int64) (LM5 : Nat → Int64) (LM6 : Nat → Int64) (LM7 : Nat → Int64) (LM8 : Nat → Int64) (LM9 : Nat → Int64) (LM10 : Nat → Int64) (LM11 : Nat → Int64) (LM12 : Nat → Int64) (LM13 : Nat → Int64) (LM14 : Nat → Int64) (LM15 : Nat → Int64) (IM0 : Nat → Int32) (IM1 : Nat → Int32) (IM2 : Nat → Int32) (IM3 : Nat → Int32) (x1 : Int64) (x3 : Int64) (m1 : VM1 ≤ 8) (m2 : VM2 ≤ 8) (m3 : VM3 ≤ 6) (m4 : VM4 ≤ 4) (mk4 : ∀ i, NM0 i < 4) (mcw : ∀ i, NM1 i < 12) (mfw : ∀ i, NM2 i < 12) (msb : ∀ i, i < 4 → ¬ LM5 i = 0) (m5 : VM5 ≤ 2) : hh_Ci l y_Model_borrow u_Model_borrow ({ frames := 1, cells := 0, slots := 0, locals := 25 }) (dC, dI) vwCl [(cI, .int), (cJ, .long), (cZ, .boolean)] (w_M cI cJ cZ aM VM0 VM1 VM2 VM3 VM4 VM5 WM0 NM0 NM1 NM2 LM0 LM1 LM2 LM3 LM4 LM5 LM6 LM7 LM8 LM9 LM10 LM11 LM12 LM13 LM14 LM15 IM0 IM1 IM2 IM3) sz [.ref (aM 0), .long x1, .long x3] ((f_Model_borrow VM4 VM5 LM9 LM10 x1 x3).1) (w_M cI cJ cZ aM ((f_Model_borrow VM4 VM5 LM9 LM10 x1 x3).2.1) VM1 VM2 VM3 ((f_Model_borrow VM4 VM5 LM9 LM10 x1 x3).2.2.1) ((f_Model_borrow VM4 VM5 LM9 LM10 x1 x3).2.2.2.1) WM0 NM0 NM1 NM2 LM0 LM1 LM2 LM3 LM4 LM5 LM6 LM7 LM8 ((f_Model_borrow VM4 VM5 LM9 LM10 x1 x3).2.2.2.2.1) ((f_Model_borrow VM4 VM5 LM9 LM10 x1 x3).2.2.2.2.2) LM11 LM12 LM13 LM14 LM15 IM0 IM1 IM2 IM3) 0 0 := by
  unfold hh_Ci
  refine Met.ofW (cc := b_Model_borrow) (maxL := 5) (ret := (some .int)) (by decide) rfl ?_
  intro p e s m args below meth c s₁ B hml hv
  obtain ⟨rfl, hsz, hP, hK, hD0⟩ := hv
  have hx := B.exec
  have hb := B.bytes
  have hr := B.returns
  have hts := atoms_spec (ws := u_Model_borrow) B.pre
  have hG : ∀ w ∈ wG, w.before ([.ref (aM 0), .long x1, .long x3]).toArray s = true := fun w h => hts w (List.mem_cons_of_mem _ h)
  have hown : s.vm.findClass R_Model = some m.cls := findClass_of_methodNamed B.named
  have hlocks := B.notSynchronized
  subst hsz
  have hD := hD0.self (sz := s.heap.size)
  generalize hAe : va_A (w_M cI cJ cZ aM VM0 VM1 VM2 VM3 VM4 VM5 WM0 NM0 NM1 NM2 LM0 LM1 LM2 LM3 LM4 LM5 LM6 LM7 LM8 LM9 LM10 LM11 LM12 LM13 LM14 LM15 IM0 IM1 IM2 IM3) s.heap.size = A at hD ⊢
  have hA : ∀ q : Nat, s.heap.size ≤ q → A q := fun q h => by rw [← hAe]; exact Or.inr h
  have hS : va_S A s.heap s.heap [] := va_S.rf
  have hl := lv_entry ([.ref (aM 0), .long x1, .long x3]) (n := 5) (Nat.le_of_ble_eq_true rfl)
  rw [lg_entry_eq]
  generalize (lg_sl ([.ref (aM 0), .long x1, .long x3]) ++ List.replicate (5 - (lg_sl ([.ref (aM 0), .long x1, .long x3])).length) Slot.unset).toArray = ls at hl ⊢
  have hl : lv_has ls 5 [(0, .ref (aM 0)), (1, .long x1), (3, .long x3)] := hl
  generalize hR : f_Model_borrow VM4 VM5 LM9 LM10 x1 x3 = r0
  obtain ⟨H, locs, hHe, hle⟩ : ∃ (H : Heap) (locs : List Loc), s.heap = H ∧ [] = locs := ⟨_, _, rfl, rfl⟩
  have hP : va_P (dC, dI) vwCl (w_M cI cJ cZ aM VM0 VM1 VM2 VM3 VM4 VM5 WM0 NM0 NM1 NM2 LM0 LM1 LM2 LM3 LM4 LM5 LM6 LM7 LM8 LM9 LM10 LM11 LM12 LM13 LM14 LM15 IM0 IM1 IM2 IM3) H := by rw [← hHe]; exact hP
  have hS : va_S A s.heap H locs := by rw [← hHe, ← hle]; exact hS
  refine hw_start hHe hle ?_
  unfold f_Model_borrow at hR
  refine lv_aload_n hx hb d_Model_borrow_0 rfl (lv_at hl 0 rfl) ?_
  refine lv_iconst (v := nI 0) hx hb d_Model_borrow_1 (by decide) ?_
  refine va_put (D := (dC, dI)) (ci := 5) (v := .int (nI 0)) (ty := .int) (C := R_Model) (T := T_Model) (N := 30) hx hb hG in_Model ty_Model tok_Model nok_Model hown hK hP hD hS 0 rfl rfl 0 (by decide) (hG _ m_614) (fun _ h9 => h9) rfl (by decide +kernel) rfl rfl (Nat.le_of_ble_eq_true rfl) d_Model_borrow_2 (fun H locs hP hD hS => ?_)
  have hP : va_P (dC, dI) vwCl (w_M cI cJ cZ aM 0 VM1 VM2 VM3 VM4 VM5 WM0 NM0 NM1 NM2 LM0 LM1 LM2 LM3 LM4 LM5 LM6 LM7 LM8 LM9 LM10 LM11 LM12 LM13 LM14 LM15 IM0 IM1 IM2 IM3) H := hP
  have hD : va_D A (w_M cI cJ cZ aM 0 VM1 VM2 VM3 VM4 VM5 WM0 NM0 NM1 NM2 LM0 LM1 LM2 LM3 LM4 LM5 LM6 LM7 LM8 LM9 LM10 LM11 LM12 LM13 LM14 LM15 IM0 IM1 IM2 IM3) := hD
  refine lv_lload_n hx hb d_Model_borrow_5 rfl (lv_at hl 1 rfl) ?_
  refine lv_lconst (v := 0) hx hb d_Model_borrow_6 (by decide) ?_
  refine lv_ldc2 (v := 100000) hx hb hown (hG _ m_719) d_Model_borrow_7 ?_
  obtain ⟨y10, hy10, hR⟩ := hw_bind hR
  have hM := c_Model_isIn l dC dI cI cJ cZ H.size x1 0 100000
  rw [hy10] at hM
  refine hw_callSi (As := [.long x1, .long 0, .long 100000]) (rest := []) (wr := w_M cI cJ cZ aM 0 VM1 VM2 VM3 VM4 VM5 WM0 NM0 NM1 NM2 LM0 LM1 LM2 LM3 LM4 LM5 LM6 LM7 LM8 LM9 LM10 LM11 LM12 LM13 LM14 LM15 IM0 IM1 IM2 IM3) ⟨hx, hb, hml, hown, hG⟩ hM (hw_cwS 3 hG m_714 m_715 m_7 m_716 rfl rfl (by decide +kernel) ⟨Nat.le_of_ble_eq_true rfl, Nat.le_of_ble_eq_true rfl⟩) hK hP hD hS hA [] [0, 1, 2, 3, 4, 5, 6, 7, 8, 9, 10, 11, 12, 13, 14, 15, 16, 17, 18, 19, 20, 21, 22, 23] rfl rfl (by decide) (by decide) (by decide) rfl hl.1 rfl (Nat.le_of_ble_eq_true rfl) d_Model_borrow_10 ⟨Nat.le_of_ble_eq_true rfl, Nat.le_of_ble_eq_true rfl⟩ (fun H locs hP hD hS => ?_)
  have hP : va_P (dC, dI) vwCl (w_M cI cJ cZ aM 0 VM1 VM2 VM3 VM4 VM5 WM0 NM0 NM1 NM2 LM0 LM1 LM2 LM3 LM4 LM5 LM6 LM7 LM8 LM9 LM10 LM11 LM12 LM13 LM14 LM15 IM0 IM1 IM2 IM3) H := hP
  have hD : va_D A (w_M cI cJ cZ aM 0 VM1 VM2 VM3 VM4 VM5 WM0 NM0 NM1 NM2 LM0 LM1 LM2 LM3 LM4 LM5 LM6 LM7 LM8 LM9 LM10 LM11 LM12 LM13 LM14 LM15 IM0 IM1 IM2 IM3) := hD
  refine lv_if_eq (tgt := 35) hx hb d_Model_borrow_13 (by decide) (fun c13 => ?_) (fun c13 => ?_)
  · replace hR := (if_pos c13).symm.trans hR
    refine lv_iconst (v := (-1)) hx hb d_Model_borrow_35 (by decide) ?_
    subst hR
    exact W.iret (v := (-1)) hx hb hr (fun t ht hW => ⟨⟨_, (), rfl, rfl, by rw [ht]; exact hP, va_K.moved hW.alike hK, hD⟩, hS.F ht⟩) hS.2.2 d_Model_borrow_36
  · replace hR := (if_neg c13).symm.trans hR
    refine lv_lload_n hx hb d_Model_borrow_16 rfl (lv_at hl 2 rfl) ?_
    refine lv_lconst (v := 0) hx hb d_Model_borrow_17 (by decide) ?_
    refine lv_ldc2 (v := 100000) hx hb hown (hG _ m_719) d_Model_borrow_18 ?_
    obtain ⟨y21, hy21, hR⟩ := hw_bind hR
    have hM := c_Model_isIn l dC dI cI cJ cZ H.size x3 0 100000
    rw [hy21] at hM
    refine hw_callSi (As := [.long x3, .long 0, .long 100000]) (rest := []) (wr := w_M cI cJ cZ aM 0 VM1 VM2 VM3 VM4 VM5 WM0 NM0 NM1 NM2 LM0 LM1 LM2 LM3 LM4 LM5 LM6 LM7 LM8 LM9 LM10 LM11 LM12 LM13 LM14 LM15 IM0 IM1 IM2 IM3) ⟨hx, hb, hml, hown, hG⟩ hM (hw_cwS 3 hG m_714 m_715 m_7 m_716 rfl rfl (by decide +kernel) ⟨Nat.le_of_ble_eq_true rfl, Nat.le_of_ble_eq_true rfl⟩) hK hP hD hS hA [] [0, 1, 2, 3, 4, 5, 6, 7, 8, 9, 10, 11, 12, 13, 14, 15, 16, 17, 18, 19, 20, 21, 22, 23] rfl rfl (by decide) (by decide) (by decide) rfl hl.1 rfl (Nat.le_of_ble_eq_true rfl) d_Model_borrow_21 ⟨Nat.le_of_ble_eq_true rfl, Nat.le_of_ble_eq_true rfl⟩ (fun H locs hP hD hS => ?_)
    have hP : va_P (dC, dI) vwCl (w_M cI cJ cZ aM 0 VM1 VM2 VM3 VM4 VM5 WM0 NM0 NM1 NM2 LM0 LM1 LM2 LM3 LM4 LM5 LM6 LM7 LM8 LM9 LM10 LM11 LM12 LM13 LM14 LM15 IM0 IM1 IM2 IM3) H := hP
    have hD : va_D A (w_M cI cJ cZ aM 0 VM1 VM2 VM3 VM4 VM5 WM0 NM0 NM1 NM2 LM0 LM1 LM2 LM3 LM4 LM5 LM6 LM7 LM8 LM9 LM10 LM11 LM12 LM13 LM14 LM15 IM0 IM1 IM2 IM3) := hD
    refine lv_if_eq (tgt := 35) hx hb d_Model_borrow_24 (by decide) (fun c24 => ?_) (fun c24 => ?_)
    · replace hR := (if_pos c24).symm.trans hR
      refine lv_iconst (v := (-1)) hx hb d_Model_borrow_35 (by decide) ?_
      subst hR
      exact W.iret (v := (-1)) hx hb hr (fun t ht hW => ⟨⟨_, (), rfl, rfl, by rw [ht]; exact hP, va_K.moved hW.alike hK, hD⟩, hS.F ht⟩) hS.2.2 d_Model_borrow_36
    · replace hR := (if_neg c24).symm.trans hR
      refine lv_aload_n hx hb d_Model_borrow_27 rfl (lv_at hl 0 rfl) ?_
      refine va_get (D := (dC, dI)) (ci := 5) (v := .int (nI VM4)) (C := R_Model) (T := T_Model) (N := 30) hx hb hG in_Model hown hK hP 0 rfl rfl 18 (by decide) (hG _ m_632) (fun _ h9 => h9) rfl d_Model_borrow_28 ?_
      refine lv_iconst (v := nI 4) hx hb d_Model_borrow_31 (by decide) ?_
      refine hw_icmp_ne (tgt := 37) hx hb d_Model_borrow_32 (by decide) (by omega) (by omega) (fun c32 => ?_) (fun c32 => ?_)
      · replace hR := (if_neg c32).symm.trans hR
        refine lv_aload_n hx hb d_Model_borrow_37 rfl (lv_at hl 0 rfl) ?_
        refine va_get (D := (dC, dI)) (ci := 5) (v := .ref (aM 15)) (C := R_Model) (T := T_Model) (N := 30) hx hb hG in_Model hown hK hP 0 rfl rfl 19 (by decide) (hG _ m_633) (fun _ h9 => h9) rfl d_Model_borrow_38 ?_
        refine lv_aload_n hx hb d_Model_borrow_41 rfl (lv_at hl 0 rfl) ?_
        refine va_get (D := (dC, dI)) (ci := 5) (v := .int (nI VM4)) (C := R_Model) (T := T_Model) (N := 30) hx hb hG in_Model hown hK hP 0 rfl rfl 18 (by decide) (hG _ m_632) (fun _ h9 => h9) rfl d_Model_borrow_42 ?_
        refine lv_lload_n hx hb d_Model_borrow_45 rfl (lv_at hl 1 rfl) ?_
        refine hw_last (f := LM9) hx hb hK hP hD hS 15 1 rfl rfl (by decide) (by omega) d_Model_borrow_46 (fun H locs hP hD hS => ?_)
        have hP : va_P (dC, dI) vwCl (w_M cI cJ cZ aM 0 VM1 VM2 VM3 VM4 VM5 WM0 NM0 NM1 NM2 LM0 LM1 LM2 LM3 LM4 LM5 LM6 LM7 LM8 (vp_updL LM9 VM4 x1) LM10 LM11 LM12 LM13 LM14 LM15 IM0 IM1 IM2 IM3) H := hP
        have hD : va_D A (w_M cI cJ cZ aM 0 VM1 VM2 VM3 VM4 VM5 WM0 NM0 NM1 NM2 LM0 LM1 LM2 LM3 LM4 LM5 LM6 LM7 LM8 (vp_updL LM9 VM4 x1) LM10 LM11 LM12 LM13 LM14 LM15 IM0 IM1 IM2 IM3) := hD
        refine lv_aload_n hx hb d_Model_borrow_47 rfl (lv_at hl 0 rfl) ?_
        refine va_get (D := (dC, dI)) (ci := 5) (v := .ref (aM 16)) (C := R_Model) (T := T_Model) (N := 30) hx hb hG in_Model hown hK hP 0 rfl rfl 20 (by decide) (hG _ m_634) (fun _ h9 => h9) rfl d_Model_borrow_48 ?_
        refine lv_aload_n hx hb d_Model_borrow_51 rfl (lv_at hl 0 rfl) ?_
        refine va_get (D := (dC, dI)) (ci := 5) (v := .int (nI VM4)) (C := R_Model) (T := T_Model) (N := 30) hx hb hG in_Model hown hK hP 0 rfl rfl 18 (by decide) (hG _ m_632) (fun _ h9 => h9) rfl d_Model_borrow_52 ?_
        refine lv_lload_n hx hb d_Model_borrow_55 rfl (lv_at hl 2 rfl) ?_
        refine hw_last (f := LM10) hx hb hK hP hD hS 16 1 rfl rfl (by decide) (by omega) d_Model_borrow_56 (fun H locs hP hD hS => ?_)
        have hP : va_P (dC, dI) vwCl (w_M cI cJ cZ aM 0 VM1 VM2 VM3 VM4 VM5 WM0 NM0 NM1 NM2 LM0 LM1 LM2 LM3 LM4 LM5 LM6 LM7 LM8 (vp_updL LM9 VM4 x1) (vp_updL LM10 VM4 x3) LM11 LM12 LM13 LM14 LM15 IM0 IM1 IM2 IM3) H := hP
        have hD : va_D A (w_M cI cJ cZ aM 0 VM1 VM2 VM3 VM4 VM5 WM0 NM0 NM1 NM2 LM0 LM1 LM2 LM3 LM4 LM5 LM6 LM7 LM8 (vp_updL LM9 VM4 x1) (vp_updL LM10 VM4 x3) LM11 LM12 LM13 LM14 LM15 IM0 IM1 IM2 IM3) := hD
        refine lv_aload_n hx hb d_Model_borrow_57 rfl (lv_at hl 0 rfl) ?_
        refine lv_dup hx hb d_Model_borrow_58 rfl ?_
        refine va_get (D := (dC, dI)) (ci := 5) (v := .int (nI VM4)) (C := R_Model) (T := T_Model) (N := 30) hx hb hG in_Model hown hK hP 0 rfl rfl 18 (by decide) (hG _ m_632) (fun _ h9 => h9) rfl d_Model_borrow_59 ?_
        refine lv_iconst (v := nI 1) hx hb d_Model_borrow_62 (by decide) ?_
        refine hw_iadd hx hb d_Model_borrow_63 ?_
        refine va_put (D := (dC, dI)) (ci := 5) (v := .int (nI (VM4 + 1))) (ty := .int) (C := R_Model) (T := T_Model) (N := 30) hx hb hG in_Model ty_Model tok_Model nok_Model hown hK hP hD hS 0 rfl rfl 18 (by decide) (hG _ m_632) (fun _ h9 => h9) rfl (by decide +kernel) rfl rfl (Nat.le_of_ble_eq_true rfl) d_Model_borrow_64 (fun H locs hP hD hS => ?_)
        have hP : va_P (dC, dI) vwCl (w_M cI cJ cZ aM 0 VM1 VM2 VM3 (VM4 + 1) VM5 WM0 NM0 NM1 NM2 LM0 LM1 LM2 LM3 LM4 LM5 LM6 LM7 LM8 (vp_updL LM9 VM4 x1) (vp_updL LM10 VM4 x3) LM11 LM12 LM13 LM14 LM15 IM0 IM1 IM2 IM3) H := hP
        have hD : va_D A (w_M cI cJ cZ aM 0 VM1 VM2 VM3 (VM4 + 1) VM5 WM0 NM0 NM1 NM2 LM0 LM1 LM2 LM3 LM4 LM5 LM6 LM7 LM8 (vp_updL LM9 VM4 x1) (vp_updL LM10 VM4 x3) LM11 LM12 LM13 LM14 LM15 IM0 IM1 IM2 IM3) := hD
        refine lv_aload_n hx hb d_Model_borrow_67 rfl (lv_at hl 0 rfl) ?_
        refine lv_iconst (v := nI 0) hx hb d_Model_borrow_68 (by decide) ?_
        refine va_put (D := (dC, dI)) (ci := 5) (v := .int (nI 0)) (ty := .int) (C := R_Model) (T := T_Model) (N := 30) hx hb hG in_Model ty_Model tok_Model nok_Model hown hK hP hD hS 0 rfl rfl 22 (by decide) (hG _ m_636) (fun _ h9 => h9) rfl (by decide +kernel) rfl rfl (Nat.le_of_ble_eq_true rfl) d_Model_borrow_69 (fun H locs hP hD hS => ?_)
        have hP : va_P (dC, dI) vwCl (w_M cI cJ cZ aM 0 VM1 VM2 VM3 (VM4 + 1) 0 WM0 NM0 NM1 NM2 LM0 LM1 LM2 LM3 LM4 LM5 LM6 LM7 LM8 (vp_updL LM9 VM4 x1) (vp_updL LM10 VM4 x3) LM11 LM12 LM13 LM14 LM15 IM0 IM1 IM2 IM3) H := hP
        have hD : va_D A (w_M cI cJ cZ aM 0 VM1 VM2 VM3 (VM4 + 1) 0 WM0 NM0 NM1 NM2 LM0 LM1 LM2 LM3 LM4 LM5 LM6 LM7 LM8 (vp_updL LM9 VM4 x1) (vp_updL LM10 VM4 x3) LM11 LM12 LM13 LM14 LM15 IM0 IM1 IM2 IM3) := hD
        refine lv_aload_n hx hb d_Model_borrow_72 rfl (lv_at hl 0 rfl) ?_
        refine va_get (D := (dC, dI)) (ci := 5) (v := .int (nI (VM4 + 1))) (C := R_Model) (T := T_Model) (N := 30) hx hb hG in_Model hown hK hP 0 rfl rfl 18 (by decide) (hG _ m_632) (fun _ h9 => h9) rfl d_Model_borrow_73 ?_
        refine lv_iconst (v := nI 1) hx hb d_Model_borrow_76 (by decide) ?_
        refine hw_isub hx hb d_Model_borrow_77 (by omega) ?_
        subst hR
        exact W.iret (v := nI ((VM4 + 1) - 1)) hx hb hr (fun t ht hW => ⟨⟨_, (), rfl, rfl, by rw [ht]; exact hP, va_K.moved hW.alike hK, hD⟩, hS.F ht⟩) hS.2.2 d_Model_borrow_78
      · replace hR := (if_pos c32).symm.trans hR
        refine lv_iconst (v := (-1)) hx hb d_Model_borrow_35 (by decide) ?_
        subst hR
        exact W.iret (v := (-1)) hx hb hr (fun t ht hW => ⟨⟨_, (), rfl, rfl, by rw [ht]; exact hP, va_K.moved hW.alike hK, hD⟩, hS.F ht⟩) hS.2.2 d_Model_borrow_36
def f_Model_most (VM5 : Nat) (LM11 : Nat → Int64) (x1 : Int32) (x2 : Int64) : Int32 × (Nat) × (Nat) × (Nat → Int64) :=
  hh_bind (f_Model_isIn x1.toInt64 0 11) (fun y11 => if y11 = 0 then (nI 0, 0, VM5, LM11) else (hh_bind (f_Model_isIn x2 0 10000000) (fun y22 => if y22 = 0 then (nI 0, 0, VM5, LM11) else (nI 1, 0, 0, vp_updL LM11 x1.toNatClampNeg x2))))
set_option maxHeartbeats 4000000 in
set_option maxRecDepth 100000 in
theorem c_Model_most (l : Launch) (dC : Nat → ClassId) (dI : Nat → Nat → Nat) (cI cJ cZ : ClassId) (sz : Nat) (aM : Nat → Nat) (VM0 : Nat) (VM1 : Nat) (VM2 : Nat) (VM3 : Nat) (VM4 : Nat) (VM5 : Nat) (WM0 : Int64) (NM0 : Nat → Nat) (NM1 : Nat → Nat) (NM2 : Nat → Nat) (LM0 : Nat → Int64) (LM1 : Nat → Int64) (LM2 : Nat → Int64) (LM3 : Nat → Int64) (LM4 : Nat → Int64) (LM5 : Nat → Int64) (LM6 : Nat → Int64) (LM7 : Nat → Int64) (LM8 : Nat → Int64) (LM9 : Nat → Int64) (LM10 : Nat → Int64) (LM11 : Nat → Int64) (LM12 : Nat → Int64) (LM13 : Nat → Int64) (LM14 : Nat → Int64) (LM15 : Nat → Int64) (IM0 : Nat → Int32) (IM1 : Nat → Int32) (IM2 : Nat → Int32) (IM3 : Nat → Int32) (x1 : Int32) (x2 : Int64) (m1 : VM1 ≤ 8) (m2 : VM2 ≤ 8) (m3 : VM3 ≤ 6) (m4 : VM4 ≤ 4) (mk4 : ∀ i, NM0 i < 4) (mcw : ∀ i, NM1 i < 12) (mfw : ∀ i, NM2 i < 12) (msb : ∀ i, i < 4 → ¬ LM5 i = 0) (m5 : VM5 ≤ 2) : hh_Ci l y_Model_most u_Model_most ({ frames := 1, cells := 0, slots := 0, locals := 25 }) (dC, dI) vwCl [(cI, .int), (cJ, .long), (cZ, .boolean)] (w_M cI cJ cZ aM VM0 VM1 VM2 VM3 VM4 VM5 WM0 NM0 NM1 NM2 LM0 LM1 LM2 LM3 LM4 LM5 LM6 LM7 LM8 LM9 LM10 LM11 LM12 LM13 LM14 LM15 IM0 IM1 IM2 IM3) sz [.ref (aM 0), .int x1, .long x2] ((f_Model_most VM5 LM11 x1 x2).1) (w_M cI cJ cZ aM ((f_Model_most VM5 LM11 x1 x2).2.1) VM1 VM2 VM3 VM4 ((f_Model_most VM5 LM11 x1 x2).2.2.1) WM0 NM0 NM1 NM2 LM0 LM1 LM2 LM3 LM4 LM5 LM6 LM7 LM8 LM9 LM10 ((f_Model_most VM5 LM11 x1 x2).2.2.2) LM12 LM13 LM14 LM15 IM0 IM1 IM2 IM3) 0 0 := by
  unfold hh_Ci
  refine Met.ofW (cc := b_Model_most) (maxL := 4) (ret := (some .boolean)) (by decide) rfl ?_
  intro p e s m args below meth c s₁ B hml hv
  obtain ⟨rfl, hsz, hP, hK, hD0⟩ := hv
  have hx := B.exec
  have hb := B.bytes
  have hr := B.returns
  have hts := atoms_spec (ws := u_Model_most) B.pre
  have hG : ∀ w ∈ wG, w.before ([.ref (aM 0), .int x1, .long x2]).toArray s = true := fun w h => hts w (List.mem_cons_of_mem _ h)
  have hown : s.vm.findClass R_Model = some m.cls := findClass_of_methodNamed B.named
  have hlocks := B.notSynchronized
  subst hsz
  have hD := hD0.self (sz := s.heap.size)
  generalize hAe : va_A (w_M cI cJ cZ aM VM0 VM1 VM2 VM3 VM4 VM5 WM0 NM0 NM1 NM2 LM0 LM1 LM2 LM3 LM4 LM5 LM6 LM7 LM8 LM9 LM10 LM11 LM12 LM13 LM14 LM15 IM0 IM1 IM2 IM3) s.heap.size = A at hD ⊢
  have hA : ∀ q : Nat, s.heap.size ≤ q → A q := fun q h => by rw [← hAe]; exact Or.inr h
  have hS : va_S A s.heap s.heap [] := va_S.rf
  have hl := lv_entry ([.ref (aM 0), .int x1, .long x2]) (n := 4) (Nat.le_of_ble_eq_true rfl)
  rw [lg_entry_eq]
  generalize (lg_sl ([.ref (aM 0), .int x1, .long x2]) ++ List.replicate (4 - (lg_sl ([.ref (aM 0), .int x1, .long x2])).length) Slot.unset).toArray = ls at hl ⊢
  have hl : lv_has ls 4 [(0, .ref (aM 0)), (1, .int x1), (2, .long x2)] := hl
  generalize hR : f_Model_most VM5 LM11 x1 x2 = r0
  obtain ⟨H, locs, hHe, hle⟩ : ∃ (H : Heap) (locs : List Loc), s.heap = H ∧ [] = locs := ⟨_, _, rfl, rfl⟩
  have hP : va_P (dC, dI) vwCl (w_M cI cJ cZ aM VM0 VM1 VM2 VM3 VM4 VM5 WM0 NM0 NM1 NM2 LM0 LM1 LM2 LM3 LM4 LM5 LM6 LM7 LM8 LM9 LM10 LM11 LM12 LM13 LM14 LM15 IM0 IM1 IM2 IM3) H := by rw [← hHe]; exact hP
  have hS : va_S A s.heap H locs := by rw [← hHe, ← hle]; exact hS
  refine hw_start hHe hle ?_
  unfold f_Model_most at hR
  refine lv_aload_n hx hb d_Model_most_0 rfl (lv_at hl 0 rfl) ?_
  refine lv_iconst (v := nI 0) hx hb d_Model_most_1 (by decide) ?_
  refine va_put (D := (dC, dI)) (ci := 5) (v := .int (nI 0)) (ty := .int) (C := R_Model) (T := T_Model) (N := 30) hx hb hG in_Model ty_Model tok_Model nok_Model hown hK hP hD hS 0 rfl rfl 0 (by decide) (hG _ m_614) (fun _ h9 => h9) rfl (by decide +kernel) rfl rfl (Nat.le_of_ble_eq_true rfl) d_Model_most_2 (fun H locs hP hD hS => ?_)
  have hP : va_P (dC, dI) vwCl (w_M cI cJ cZ aM 0 VM1 VM2 VM3 VM4 VM5 WM0 NM0 NM1 NM2 LM0 LM1 LM2 LM3 LM4 LM5 LM6 LM7 LM8 LM9 LM10 LM11 LM12 LM13 LM14 LM15 IM0 IM1 IM2 IM3) H := hP
  have hD : va_D A (w_M cI cJ cZ aM 0 VM1 VM2 VM3 VM4 VM5 WM0 NM0 NM1 NM2 LM0 LM1 LM2 LM3 LM4 LM5 LM6 LM7 LM8 LM9 LM10 LM11 LM12 LM13 LM14 LM15 IM0 IM1 IM2 IM3) := hD
  refine lv_iload_n hx hb d_Model_most_5 rfl (lv_at hl 1 rfl) ?_
  refine lv_i2l (v := x1.toInt64) hx hb d_Model_most_6 rfl ?_
  refine lv_lconst (v := 0) hx hb d_Model_most_7 (by decide) ?_
  refine lv_ldc2 (v := 11) hx hb hown (hG _ m_718) d_Model_most_8 ?_
  obtain ⟨y11, hy11, hR⟩ := hw_bind hR
  have hM := c_Model_isIn l dC dI cI cJ cZ H.size x1.toInt64 0 11
  rw [hy11] at hM
  refine hw_callSi (As := [.long x1.toInt64, .long 0, .long 11]) (rest := []) (wr := w_M cI cJ cZ aM 0 VM1 VM2 VM3 VM4 VM5 WM0 NM0 NM1 NM2 LM0 LM1 LM2 LM3 LM4 LM5 LM6 LM7 LM8 LM9 LM10 LM11 LM12 LM13 LM14 LM15 IM0 IM1 IM2 IM3) ⟨hx, hb, hml, hown, hG⟩ hM (hw_cwS 3 hG m_714 m_715 m_7 m_716 rfl rfl (by decide +kernel) ⟨Nat.le_of_ble_eq_true rfl, Nat.le_of_ble_eq_true rfl⟩) hK hP hD hS hA [] [0, 1, 2, 3, 4, 5, 6, 7, 8, 9, 10, 11, 12, 13, 14, 15, 16, 17, 18, 19, 20, 21, 22, 23] rfl rfl (by decide) (by decide) (by decide) rfl hl.1 rfl (Nat.le_of_ble_eq_true rfl) d_Model_most_11 ⟨Nat.le_of_ble_eq_true rfl, Nat.le_of_ble_eq_true rfl⟩ (fun H locs hP hD hS => ?_)
  have hP : va_P (dC, dI) vwCl (w_M cI cJ cZ aM 0 VM1 VM2 VM3 VM4 VM5 WM0 NM0 NM1 NM2 LM0 LM1 LM2 LM3 LM4 LM5 LM6 LM7 LM8 LM9 LM10 LM11 LM12 LM13 LM14 LM15 IM0 IM1 IM2 IM3) H := hP
  have hD : va_D A (w_M cI cJ cZ aM 0 VM1 VM2 VM3 VM4 VM5 WM0 NM0 NM1 NM2 LM0 LM1 LM2 LM3 LM4 LM5 LM6 LM7 LM8 LM9 LM10 LM11 LM12 LM13 LM14 LM15 IM0 IM1 IM2 IM3) := hD
  have hbl11 := hm_in (x := x1) (n := 12) (hi := 11) (by decide)
  rw [hy11] at hbl11
  refine lv_if_eq (tgt := 28) hx hb d_Model_most_14 (by decide) (fun c14 => ?_) (fun c14 => ?_)
  · replace hR := (if_pos c14).symm.trans hR
    refine lv_iconst (v := nI 0) hx hb d_Model_most_28 (by decide) ?_
    subst hR
    exact W.zret (v := nI 0) hx hb hr (by decide) (fun t ht hW => ⟨⟨_, (), rfl, rfl, by rw [ht]; exact hP, va_K.moved hW.alike hK, hD⟩, hS.F ht⟩) hS.2.2 d_Model_most_29
  · replace hR := (if_neg c14).symm.trans hR
    refine lv_lload_n hx hb d_Model_most_17 rfl (lv_at hl 2 rfl) ?_
    refine lv_lconst (v := 0) hx hb d_Model_most_18 (by decide) ?_
    refine lv_ldc2 (v := 10000000) hx hb hown (hG _ m_749) d_Model_most_19 ?_
    obtain ⟨y22, hy22, hR⟩ := hw_bind hR
    have hM := c_Model_isIn l dC dI cI cJ cZ H.size x2 0 10000000
    rw [hy22] at hM
    refine hw_callSi (As := [.long x2, .long 0, .long 10000000]) (rest := []) (wr := w_M cI cJ cZ aM 0 VM1 VM2 VM3 VM4 VM5 WM0 NM0 NM1 NM2 LM0 LM1 LM2 LM3 LM4 LM5 LM6 LM7 LM8 LM9 LM10 LM11 LM12 LM13 LM14 LM15 IM0 IM1 IM2 IM3) ⟨hx, hb, hml, hown, hG⟩ hM (hw_cwS 3 hG m_714 m_715 m_7 m_716 rfl rfl (by decide +kernel) ⟨Nat.le_of_ble_eq_true rfl, Nat.le_of_ble_eq_true rfl⟩) hK hP hD hS hA [] [0, 1, 2, 3, 4, 5, 6, 7, 8, 9, 10, 11, 12, 13, 14, 15, 16, 17, 18, 19, 20, 21, 22, 23] rfl rfl (by decide) (by decide) (by decide) rfl hl.1 rfl (Nat.le_of_ble_eq_true rfl) d_Model_most_22 ⟨Nat.le_of_ble_eq_true rfl, Nat.le_of_ble_eq_true rfl⟩ (fun H locs hP hD hS => ?_)
    have hP : va_P (dC, dI) vwCl (w_M cI cJ cZ aM 0 VM1 VM2 VM3 VM4 VM5 WM0 NM0 NM1 NM2 LM0 LM1 LM2 LM3 LM4 LM5 LM6 LM7 LM8 LM9 LM10 LM11 LM12 LM13 LM14 LM15 IM0 IM1 IM2 IM3) H := hP
    have hD : va_D A (w_M cI cJ cZ aM 0 VM1 VM2 VM3 VM4 VM5 WM0 NM0 NM1 NM2 LM0 LM1 LM2 LM3 LM4 LM5 LM6 LM7 LM8 LM9 LM10 LM11 LM12 LM13 LM14 LM15 IM0 IM1 IM2 IM3) := hD
    refine lv_if_ne (tgt := 30) hx hb d_Model_most_25 (by decide) (fun c25 => ?_) (fun c25 => ?_)
    · replace hR := (if_neg c25).symm.trans hR
      obtain ⟨hna1, hnb1⟩ := hbl11 c14
      have en30_1 : nI (x1.toNatClampNeg) = x1 := hw_nat hna1
      have hl : lv_has ls 4 [(0, .ref (aM 0)), (1, .int (nI x1.toNatClampNeg)), (2, .long x2)] := by rw [en30_1]; exact hl
      refine lv_aload_n hx hb d_Model_most_30 rfl (lv_at hl 0 rfl) ?_
      refine va_get (D := (dC, dI)) (ci := 5) (v := .ref (aM 17)) (C := R_Model) (T := T_Model) (N := 30) hx hb hG in_Model hown hK hP 0 rfl rfl 21 (by decide) (hG _ m_635) (fun _ h9 => h9) rfl d_Model_most_31 ?_
      refine lv_iload_n hx hb d_Model_most_34 rfl (lv_at hl 1 rfl) ?_
      refine lv_lload_n hx hb d_Model_most_35 rfl (lv_at hl 2 rfl) ?_
      refine hw_last (f := LM11) hx hb hK hP hD hS 17 1 rfl rfl (by decide) (by omega) d_Model_most_36 (fun H locs hP hD hS => ?_)
      have hP : va_P (dC, dI) vwCl (w_M cI cJ cZ aM 0 VM1 VM2 VM3 VM4 VM5 WM0 NM0 NM1 NM2 LM0 LM1 LM2 LM3 LM4 LM5 LM6 LM7 LM8 LM9 LM10 (vp_updL LM11 x1.toNatClampNeg x2) LM12 LM13 LM14 LM15 IM0 IM1 IM2 IM3) H := hP
      have hD : va_D A (w_M cI cJ cZ aM 0 VM1 VM2 VM3 VM4 VM5 WM0 NM0 NM1 NM2 LM0 LM1 LM2 LM3 LM4 LM5 LM6 LM7 LM8 LM9 LM10 (vp_updL LM11 x1.toNatClampNeg x2) LM12 LM13 LM14 LM15 IM0 IM1 IM2 IM3) := hD
      refine lv_aload_n hx hb d_Model_most_37 rfl (lv_at hl 0 rfl) ?_
      refine lv_iconst (v := nI 0) hx hb d_Model_most_38 (by decide) ?_
      refine va_put (D := (dC, dI)) (ci := 5) (v := .int (nI 0)) (ty := .int) (C := R_Model) (T := T_Model) (N := 30) hx hb hG in_Model ty_Model tok_Model nok_Model hown hK hP hD hS 0 rfl rfl 22 (by decide) (hG _ m_636) (fun _ h9 => h9) rfl (by decide +kernel) rfl rfl (Nat.le_of_ble_eq_true rfl) d_Model_most_39 (fun H locs hP hD hS => ?_)
      have hP : va_P (dC, dI) vwCl (w_M cI cJ cZ aM 0 VM1 VM2 VM3 VM4 0 WM0 NM0 NM1 NM2 LM0 LM1 LM2 LM3 LM4 LM5 LM6 LM7 LM8 LM9 LM10 (vp_updL LM11 x1.toNatClampNeg x2) LM12 LM13 LM14 LM15 IM0 IM1 IM2 IM3) H := hP
      have hD : va_D A (w_M cI cJ cZ aM 0 VM1 VM2 VM3 VM4 0 WM0 NM0 NM1 NM2 LM0 LM1 LM2 LM3 LM4 LM5 LM6 LM7 LM8 LM9 LM10 (vp_updL LM11 x1.toNatClampNeg x2) LM12 LM13 LM14 LM15 IM0 IM1 IM2 IM3) := hD
      refine lv_iconst (v := nI 1) hx hb d_Model_most_42 (by decide) ?_
      subst hR
      exact W.zret (v := nI 1) hx hb hr (by decide) (fun t ht hW => ⟨⟨_, (), rfl, rfl, by rw [ht]; exact hP, va_K.moved hW.alike hK, hD⟩, hS.F ht⟩) hS.2.2 d_Model_most_43
    · replace hR := (if_pos c25).symm.trans hR
      refine lv_iconst (v := nI 0) hx hb d_Model_most_28 (by decide) ?_
      subst hR
      exact W.zret (v := nI 0) hx hb hr (by decide) (fun t ht hW => ⟨⟨_, (), rfl, rfl, by rw [ht]; exact hP, va_K.moved hW.alike hK, hD⟩, hS.F ht⟩) hS.2.2 d_Model_most_29
