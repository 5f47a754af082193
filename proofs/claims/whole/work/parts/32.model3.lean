abbrev b_Model_moved : ByteArray := prog_7_method_26_code
def y_Model_moved : MethodName := ⟨R_Model, "moved", "(III)J"⟩
def u_Model_moved : List Cond := Cond.code y_Model_moved b_Model_moved 6 (some .long) :: wG
theorem d_Model_moved_0 : decode b_Model_moved 0 = .ok (.aload_n 0, 1) := by decide +kernel
theorem d_Model_moved_1 : decode b_Model_moved 1 = .ok (.iconst 0, 1) := by decide +kernel
theorem d_Model_moved_2 : decode b_Model_moved 2 = .ok (.putfield 83, 3) := by decide +kernel
theorem d_Model_moved_5 : decode b_Model_moved 5 = .ok (.aload_n 0, 1) := by decide +kernel
theorem d_Model_moved_6 : decode b_Model_moved 6 = .ok (.getfield 102, 3) := by decide +kernel
theorem d_Model_moved_9 : decode b_Model_moved 9 = .ok (.iconst 1, 1) := by decide +kernel
theorem d_Model_moved_10 : decode b_Model_moved 10 = .ok (.if_icmp .ne 50, 3) := by decide +kernel
theorem d_Model_moved_13 : decode b_Model_moved 13 = .ok (.iload_n 1, 1) := by decide +kernel
theorem d_Model_moved_14 : decode b_Model_moved 14 = .ok (.i2l, 1) := by decide +kernel
theorem d_Model_moved_15 : decode b_Model_moved 15 = .ok (.lconst 0, 1) := by decide +kernel
theorem d_Model_moved_16 : decode b_Model_moved 16 = .ok (.aload_n 0, 1) := by decide +kernel
theorem d_Model_moved_17 : decode b_Model_moved 17 = .ok (.getfield 99, 3) := by decide +kernel
theorem d_Model_moved_20 : decode b_Model_moved 20 = .ok (.aload_n 0, 1) := by decide +kernel
theorem d_Model_moved_21 : decode b_Model_moved 21 = .ok (.getfield 113, 3) := by decide +kernel
theorem d_Model_moved_24 : decode b_Model_moved 24 = .ok (.iadd, 1) := by decide +kernel
theorem d_Model_moved_25 : decode b_Model_moved 25 = .ok (.i2l, 1) := by decide +kernel
theorem d_Model_moved_26 : decode b_Model_moved 26 = .ok (.lconst 1, 1) := by decide +kernel
theorem d_Model_moved_27 : decode b_Model_moved 27 = .ok (.lsub, 1) := by decide +kernel
theorem d_Model_moved_28 : decode b_Model_moved 28 = .ok (.invokestatic 89, 3) := by decide +kernel
theorem d_Model_moved_31 : decode b_Model_moved 31 = .ok (.ifCond .eq 29, 3) := by decide +kernel
theorem d_Model_moved_34 : decode b_Model_moved 34 = .ok (.iload_n 2, 1) := by decide +kernel
theorem d_Model_moved_35 : decode b_Model_moved 35 = .ok (.i2l, 1) := by decide +kernel
theorem d_Model_moved_36 : decode b_Model_moved 36 = .ok (.lconst 0, 1) := by decide +kernel
theorem d_Model_moved_37 : decode b_Model_moved 37 = .ok (.aload_n 0, 1) := by decide +kernel
theorem d_Model_moved_38 : decode b_Model_moved 38 = .ok (.getfield 105, 3) := by decide +kernel
theorem d_Model_moved_41 : decode b_Model_moved 41 = .ok (.i2l, 1) := by decide +kernel
theorem d_Model_moved_42 : decode b_Model_moved 42 = .ok (.lconst 1, 1) := by decide +kernel
theorem d_Model_moved_43 : decode b_Model_moved 43 = .ok (.lsub, 1) := by decide +kernel
theorem d_Model_moved_44 : decode b_Model_moved 44 = .ok (.invokestatic 89, 3) := by decide +kernel
theorem d_Model_moved_47 : decode b_Model_moved 47 = .ok (.ifCond .eq 13, 3) := by decide +kernel
theorem d_Model_moved_50 : decode b_Model_moved 50 = .ok (.iload_n 3, 1) := by decide +kernel
theorem d_Model_moved_51 : decode b_Model_moved 51 = .ok (.i2l, 1) := by decide +kernel
theorem d_Model_moved_52 : decode b_Model_moved 52 = .ok (.lconst 0, 1) := by decide +kernel
theorem d_Model_moved_53 : decode b_Model_moved 53 = .ok (.lconst 1, 1) := by decide +kernel
theorem d_Model_moved_54 : decode b_Model_moved 54 = .ok (.invokestatic 89, 3) := by decide +kernel
theorem d_Model_moved_57 : decode b_Model_moved 57 = .ok (.ifCond .ne 7, 3) := by decide +kernel
theorem d_Model_moved_60 : decode b_Model_moved 60 = .ok (.ldc2_w 171, 3) := by decide +kernel
theorem d_Model_moved_63 : decode b_Model_moved 63 = .ok (.lreturn, 1) := by decide +kernel
theorem d_Model_moved_64 : decode b_Model_moved 64 = .ok (.aload_n 0, 1) := by decide +kernel
theorem d_Model_moved_65 : decode b_Model_moved 65 = .ok (.getfield 63, 3) := by decide +kernel
theorem d_Model_moved_68 : decode b_Model_moved 68 = .ok (.bipush 8, 2) := by decide +kernel
theorem d_Model_moved_70 : decode b_Model_moved 70 = .ok (.iload_n 1, 1) := by decide +kernel
theorem d_Model_moved_71 : decode b_Model_moved 71 = .ok (.imul, 1) := by decide +kernel
theorem d_Model_moved_72 : decode b_Model_moved 72 = .ok (.iload_n 2, 1) := by decide +kernel
theorem d_Model_moved_73 : decode b_Model_moved 73 = .ok (.iadd, 1) := by decide +kernel
theorem d_Model_moved_74 : decode b_Model_moved 74 = .ok (.laload, 1) := by decide +kernel
theorem d_Model_moved_75 : decode b_Model_moved 75 = .ok (.lstore 4, 2) := by decide +kernel
theorem d_Model_moved_77 : decode b_Model_moved 77 = .ok (.iload_n 3, 1) := by decide +kernel
theorem d_Model_moved_78 : decode b_Model_moved 78 = .ok (.ifCond .ne 8, 3) := by decide +kernel
theorem d_Model_moved_81 : decode b_Model_moved 81 = .ok (.lload 4, 2) := by decide +kernel
theorem d_Model_moved_83 : decode b_Model_moved 83 = .ok (.goto 14, 3) := by decide +kernel
theorem d_Model_moved_86 : decode b_Model_moved 86 = .ok (.lload 4, 2) := by decide +kernel
theorem d_Model_moved_88 : decode b_Model_moved 88 = .ok (.aload_n 0, 1) := by decide +kernel
theorem d_Model_moved_89 : decode b_Model_moved 89 = .ok (.iload_n 1, 1) := by decide +kernel
theorem d_Model_moved_90 : decode b_Model_moved 90 = .ok (.iload_n 2, 1) := by decide +kernel
theorem d_Model_moved_91 : decode b_Model_moved 91 = .ok (.bipush (-2), 2) := by decide +kernel
theorem d_Model_moved_93 : decode b_Model_moved 93 = .ok (.invokevirtual 133, 3) := by decide +kernel
theorem d_Model_moved_96 : decode b_Model_moved 96 = .ok (.lmul, 1) := by decide +kernel
theorem d_Model_moved_97 : decode b_Model_moved 97 = .ok (.lreturn, 1) := by decide +kernel
abbrev b_Model_cost : ByteArray := prog_7_method_27_code
def y_Model_cost : MethodName := ⟨R_Model, "cost", "(I)J"⟩
def u_Model_cost : List Cond := Cond.code y_Model_cost b_Model_cost 6 (some .long) :: wG
theorem d_Model_cost_0 : decode b_Model_cost 0 = .ok (.aload_n 0, 1) := by decide +kernel
theorem d_Model_cost_1 : decode b_Model_cost 1 = .ok (.iconst 0, 1) := by decide +kernel
theorem d_Model_cost_2 : decode b_Model_cost 2 = .ok (.putfield 83, 3) := by decide +kernel
theorem d_Model_cost_5 : decode b_Model_cost 5 = .ok (.aload_n 0, 1) := by decide +kernel
theorem d_Model_cost_6 : decode b_Model_cost 6 = .ok (.getfield 102, 3) := by decide +kernel
theorem d_Model_cost_9 : decode b_Model_cost 9 = .ok (.iconst 1, 1) := by decide +kernel
theorem d_Model_cost_10 : decode b_Model_cost 10 = .ok (.if_icmp .ne 15, 3) := by decide +kernel
theorem d_Model_cost_13 : decode b_Model_cost 13 = .ok (.iload_n 1, 1) := by decide +kernel
theorem d_Model_cost_14 : decode b_Model_cost 14 = .ok (.i2l, 1) := by decide +kernel
theorem d_Model_cost_15 : decode b_Model_cost 15 = .ok (.lconst 0, 1) := by decide +kernel
theorem d_Model_cost_16 : decode b_Model_cost 16 = .ok (.ldc2_w 173, 3) := by decide +kernel
theorem d_Model_cost_19 : decode b_Model_cost 19 = .ok (.invokestatic 89, 3) := by decide +kernel
theorem d_Model_cost_22 : decode b_Model_cost 22 = .ok (.ifCond .ne 7, 3) := by decide +kernel
theorem d_Model_cost_25 : decode b_Model_cost 25 = .ok (.ldc2_w 171, 3) := by decide +kernel
theorem d_Model_cost_28 : decode b_Model_cost 28 = .ok (.lreturn, 1) := by decide +kernel
theorem d_Model_cost_29 : decode b_Model_cost 29 = .ok (.iload_n 1, 1) := by decide +kernel
theorem d_Model_cost_30 : decode b_Model_cost 30 = .ok (.ifCond .ne 8, 3) := by decide +kernel
theorem d_Model_cost_33 : decode b_Model_cost 33 = .ok (.aload_n 0, 1) := by decide +kernel
theorem d_Model_cost_34 : decode b_Model_cost 34 = .ok (.getfield 164, 3) := by decide +kernel
theorem d_Model_cost_37 : decode b_Model_cost 37 = .ok (.lreturn, 1) := by decide +kernel
theorem d_Model_cost_38 : decode b_Model_cost 38 = .ok (.lconst 0, 1) := by decide +kernel
theorem d_Model_cost_39 : decode b_Model_cost 39 = .ok (.lstore_n 2, 1) := by decide +kernel
theorem d_Model_cost_40 : decode b_Model_cost 40 = .ok (.iload_n 1, 1) := by decide +kernel
theorem d_Model_cost_41 : decode b_Model_cost 41 = .ok (.iconst 1, 1) := by decide +kernel
theorem d_Model_cost_42 : decode b_Model_cost 42 = .ok (.if_icmp .ne 7, 3) := by decide +kernel
theorem d_Model_cost_45 : decode b_Model_cost 45 = .ok (.iconst 0, 1) := by decide +kernel
theorem d_Model_cost_46 : decode b_Model_cost 46 = .ok (.goto 7, 3) := by decide +kernel
theorem d_Model_cost_49 : decode b_Model_cost 49 = .ok (.aload_n 0, 1) := by decide +kernel
theorem d_Model_cost_50 : decode b_Model_cost 50 = .ok (.getfield 99, 3) := by decide +kernel
theorem d_Model_cost_53 : decode b_Model_cost 53 = .ok (.istore 4, 2) := by decide +kernel
theorem d_Model_cost_55 : decode b_Model_cost 55 = .ok (.iload 4, 2) := by decide +kernel
theorem d_Model_cost_57 : decode b_Model_cost 57 = .ok (.aload_n 0, 1) := by decide +kernel
theorem d_Model_cost_58 : decode b_Model_cost 58 = .ok (.getfield 99, 3) := by decide +kernel
theorem d_Model_cost_61 : decode b_Model_cost 61 = .ok (.aload_n 0, 1) := by decide +kernel
theorem d_Model_cost_62 : decode b_Model_cost 62 = .ok (.getfield 113, 3) := by decide +kernel
theorem d_Model_cost_65 : decode b_Model_cost 65 = .ok (.iadd, 1) := by decide +kernel
theorem d_Model_cost_66 : decode b_Model_cost 66 = .ok (.if_icmp .ge 43, 3) := by decide +kernel
theorem d_Model_cost_69 : decode b_Model_cost 69 = .ok (.iconst 0, 1) := by decide +kernel
theorem d_Model_cost_70 : decode b_Model_cost 70 = .ok (.istore 5, 2) := by decide +kernel
theorem d_Model_cost_72 : decode b_Model_cost 72 = .ok (.iload 5, 2) := by decide +kernel
theorem d_Model_cost_74 : decode b_Model_cost 74 = .ok (.aload_n 0, 1) := by decide +kernel
theorem d_Model_cost_75 : decode b_Model_cost 75 = .ok (.getfield 105, 3) := by decide +kernel
theorem d_Model_cost_78 : decode b_Model_cost 78 = .ok (.if_icmp .ge 25, 3) := by decide +kernel
theorem d_Model_cost_81 : decode b_Model_cost 81 = .ok (.lload_n 2, 1) := by decide +kernel
theorem d_Model_cost_82 : decode b_Model_cost 82 = .ok (.aload_n 0, 1) := by decide +kernel
theorem d_Model_cost_83 : decode b_Model_cost 83 = .ok (.getfield 63, 3) := by decide +kernel
theorem d_Model_cost_86 : decode b_Model_cost 86 = .ok (.bipush 8, 2) := by decide +kernel
theorem d_Model_cost_88 : decode b_Model_cost 88 = .ok (.iload 4, 2) := by decide +kernel
theorem d_Model_cost_90 : decode b_Model_cost 90 = .ok (.imul, 1) := by decide +kernel
theorem d_Model_cost_91 : decode b_Model_cost 91 = .ok (.iload 5, 2) := by decide +kernel
theorem d_Model_cost_93 : decode b_Model_cost 93 = .ok (.iadd, 1) := by decide +kernel
theorem d_Model_cost_94 : decode b_Model_cost 94 = .ok (.laload, 1) := by decide +kernel
theorem d_Model_cost_95 : decode b_Model_cost 95 = .ok (.ladd, 1) := by decide +kernel
theorem d_Model_cost_96 : decode b_Model_cost 96 = .ok (.lstore_n 2, 1) := by decide +kernel
theorem d_Model_cost_97 : decode b_Model_cost 97 = .ok (.iinc 5 1, 3) := by decide +kernel
theorem d_Model_cost_100 : decode b_Model_cost 100 = .ok (.goto (-28), 3) := by decide +kernel
theorem d_Model_cost_103 : decode b_Model_cost 103 = .ok (.iinc 4 1, 3) := by decide +kernel
theorem d_Model_cost_106 : decode b_Model_cost 106 = .ok (.goto (-51), 3) := by decide +kernel
theorem d_Model_cost_109 : decode b_Model_cost 109 = .ok (.lload_n 2, 1) := by decide +kernel
theorem d_Model_cost_110 : decode b_Model_cost 110 = .ok (.lreturn, 1) := by decide +kernel
abbrev b_Model_clash : ByteArray := prog_7_method_30_code
def y_Model_clash : MethodName := ⟨R_Model, "clash", "(I)I"⟩
def u_Model_clash : List Cond := Cond.code y_Model_clash b_Model_clash 4 (some .int) :: wG
theorem d_Model_clash_0 : decode b_Model_clash 0 = .ok (.aload_n 0, 1) := by decide +kernel
theorem d_Model_clash_1 : decode b_Model_clash 1 = .ok (.iconst 0, 1) := by decide +kernel
theorem d_Model_clash_2 : decode b_Model_clash 2 = .ok (.putfield 83, 3) := by decide +kernel
theorem d_Model_clash_5 : decode b_Model_clash 5 = .ok (.iconst 0, 1) := by decide +kernel
theorem d_Model_clash_6 : decode b_Model_clash 6 = .ok (.istore_n 2, 1) := by decide +kernel
theorem d_Model_clash_7 : decode b_Model_clash 7 = .ok (.iconst 0, 1) := by decide +kernel
theorem d_Model_clash_8 : decode b_Model_clash 8 = .ok (.istore_n 3, 1) := by decide +kernel
theorem d_Model_clash_9 : decode b_Model_clash 9 = .ok (.iload_n 3, 1) := by decide +kernel
theorem d_Model_clash_10 : decode b_Model_clash 10 = .ok (.aload_n 0, 1) := by decide +kernel
theorem d_Model_clash_11 : decode b_Model_clash 11 = .ok (.getfield 105, 3) := by decide +kernel
theorem d_Model_clash_14 : decode b_Model_clash 14 = .ok (.if_icmp .ge 36, 3) := by decide +kernel
theorem d_Model_clash_17 : decode b_Model_clash 17 = .ok (.aload_n 0, 1) := by decide +kernel
theorem d_Model_clash_18 : decode b_Model_clash 18 = .ok (.getfield 102, 3) := by decide +kernel
theorem d_Model_clash_21 : decode b_Model_clash 21 = .ok (.iconst 2, 1) := by decide +kernel
theorem d_Model_clash_22 : decode b_Model_clash 22 = .ok (.if_icmp .ne 28, 3) := by decide +kernel
theorem d_Model_clash_25 : decode b_Model_clash 25 = .ok (.aload_n 0, 1) := by decide +kernel
theorem d_Model_clash_26 : decode b_Model_clash 26 = .ok (.getfield 66, 3) := by decide +kernel
theorem d_Model_clash_29 : decode b_Model_clash 29 = .ok (.iload_n 3, 1) := by decide +kernel
theorem d_Model_clash_30 : decode b_Model_clash 30 = .ok (.baload, 1) := by decide +kernel
theorem d_Model_clash_31 : decode b_Model_clash 31 = .ok (.ifCond .eq 13, 3) := by decide +kernel
theorem d_Model_clash_34 : decode b_Model_clash 34 = .ok (.iload_n 2, 1) := by decide +kernel
theorem d_Model_clash_35 : decode b_Model_clash 35 = .ok (.iload_n 1, 1) := by decide +kernel
theorem d_Model_clash_36 : decode b_Model_clash 36 = .ok (.if_icmp .ne 5, 3) := by decide +kernel
theorem d_Model_clash_39 : decode b_Model_clash 39 = .ok (.iload_n 3, 1) := by decide +kernel
theorem d_Model_clash_40 : decode b_Model_clash 40 = .ok (.ireturn, 1) := by decide +kernel
theorem d_Model_clash_41 : decode b_Model_clash 41 = .ok (.iinc 2 1, 3) := by decide +kernel
theorem d_Model_clash_44 : decode b_Model_clash 44 = .ok (.iinc 3 1, 3) := by decide +kernel
theorem d_Model_clash_47 : decode b_Model_clash 47 = .ok (.goto (-38), 3) := by decide +kernel
theorem d_Model_clash_50 : decode b_Model_clash 50 = .ok (.iconst (-1), 1) := by decide +kernel
theorem d_Model_clash_51 : decode b_Model_clash 51 = .ok (.ireturn, 1) := by decide +kernel
abbrev b_Model_list : ByteArray := prog_7_method_32_code
def y_Model_list : MethodName := ⟨R_Model, "list", "(III)I"⟩
def u_Model_list : List Cond := Cond.code y_Model_list b_Model_list 7 (some .int) :: wG
theorem d_Model_list_0 : decode b_Model_list 0 = .ok (.aload_n 0, 1) := by decide +kernel
theorem d_Model_list_1 : decode b_Model_list 1 = .ok (.iconst 0, 1) := by decide +kernel
theorem d_Model_list_2 : decode b_Model_list 2 = .ok (.putfield 83, 3) := by decide +kernel
theorem d_Model_list_5 : decode b_Model_list 5 = .ok (.iconst 0, 1) := by decide +kernel
theorem d_Model_list_6 : decode b_Model_list 6 = .ok (.istore 4, 2) := by decide +kernel
theorem d_Model_list_8 : decode b_Model_list 8 = .ok (.iconst 0, 1) := by decide +kernel
theorem d_Model_list_9 : decode b_Model_list 9 = .ok (.istore 5, 2) := by decide +kernel
theorem d_Model_list_11 : decode b_Model_list 11 = .ok (.iload 5, 2) := by decide +kernel
theorem d_Model_list_13 : decode b_Model_list 13 = .ok (.aload_n 0, 1) := by decide +kernel
theorem d_Model_list_14 : decode b_Model_list 14 = .ok (.getfield 99, 3) := by decide +kernel
theorem d_Model_list_17 : decode b_Model_list 17 = .ok (.aload_n 0, 1) := by decide +kernel
theorem d_Model_list_18 : decode b_Model_list 18 = .ok (.getfield 113, 3) := by decide +kernel
theorem d_Model_list_21 : decode b_Model_list 21 = .ok (.iadd, 1) := by decide +kernel
theorem d_Model_list_22 : decode b_Model_list 22 = .ok (.if_icmp .ge 119, 3) := by decide +kernel
theorem d_Model_list_25 : decode b_Model_list 25 = .ok (.aload_n 0, 1) := by decide +kernel
theorem d_Model_list_26 : decode b_Model_list 26 = .ok (.getfield 102, 3) := by decide +kernel
theorem d_Model_list_29 : decode b_Model_list 29 = .ok (.iconst 1, 1) := by decide +kernel
theorem d_Model_list_30 : decode b_Model_list 30 = .ok (.if_icmp .ne 111, 3) := by decide +kernel
theorem d_Model_list_33 : decode b_Model_list 33 = .ok (.iload_n 3, 1) := by decide +kernel
theorem d_Model_list_34 : decode b_Model_list 34 = .ok (.i2l, 1) := by decide +kernel
theorem d_Model_list_35 : decode b_Model_list 35 = .ok (.lconst 0, 1) := by decide +kernel
theorem d_Model_list_36 : decode b_Model_list 36 = .ok (.ldc2_w 173, 3) := by decide +kernel
theorem d_Model_list_39 : decode b_Model_list 39 = .ok (.invokestatic 89, 3) := by decide +kernel
theorem d_Model_list_42 : decode b_Model_list 42 = .ok (.ifCond .eq 99, 3) := by decide +kernel
theorem d_Model_list_45 : decode b_Model_list 45 = .ok (.iconst 0, 1) := by decide +kernel
theorem d_Model_list_46 : decode b_Model_list 46 = .ok (.istore 6, 2) := by decide +kernel
theorem d_Model_list_48 : decode b_Model_list 48 = .ok (.iload 6, 2) := by decide +kernel
theorem d_Model_list_50 : decode b_Model_list 50 = .ok (.aload_n 0, 1) := by decide +kernel
theorem d_Model_list_51 : decode b_Model_list 51 = .ok (.getfield 105, 3) := by decide +kernel
theorem d_Model_list_54 : decode b_Model_list 54 = .ok (.if_icmp .ge 81, 3) := by decide +kernel
theorem d_Model_list_57 : decode b_Model_list 57 = .ok (.aload_n 0, 1) := by decide +kernel
theorem d_Model_list_58 : decode b_Model_list 58 = .ok (.getfield 26, 3) := by decide +kernel
theorem d_Model_list_61 : decode b_Model_list 61 = .ok (.iload 6, 2) := by decide +kernel
theorem d_Model_list_63 : decode b_Model_list 63 = .ok (.iaload, 1) := by decide +kernel
theorem d_Model_list_64 : decode b_Model_list 64 = .ok (.iload_n 1, 1) := by decide +kernel
theorem d_Model_list_65 : decode b_Model_list 65 = .ok (.if_icmp .ne 64, 3) := by decide +kernel
theorem d_Model_list_68 : decode b_Model_list 68 = .ok (.aload_n 0, 1) := by decide +kernel
theorem d_Model_list_69 : decode b_Model_list 69 = .ok (.getfield 63, 3) := by decide +kernel
theorem d_Model_list_72 : decode b_Model_list 72 = .ok (.bipush 8, 2) := by decide +kernel
theorem d_Model_list_74 : decode b_Model_list 74 = .ok (.iload 5, 2) := by decide +kernel
theorem d_Model_list_76 : decode b_Model_list 76 = .ok (.imul, 1) := by decide +kernel
theorem d_Model_list_77 : decode b_Model_list 77 = .ok (.iload 6, 2) := by decide +kernel
theorem d_Model_list_79 : decode b_Model_list 79 = .ok (.iadd, 1) := by decide +kernel
theorem d_Model_list_80 : decode b_Model_list 80 = .ok (.laload, 1) := by decide +kernel
theorem d_Model_list_81 : decode b_Model_list 81 = .ok (.lconst 0, 1) := by decide +kernel
theorem d_Model_list_82 : decode b_Model_list 82 = .ok (.lcmp, 1) := by decide +kernel
theorem d_Model_list_83 : decode b_Model_list 83 = .ok (.ifCond .le 46, 3) := by decide +kernel
theorem d_Model_list_86 : decode b_Model_list 86 = .ok (.iload 4, 2) := by decide +kernel
theorem d_Model_list_88 : decode b_Model_list 88 = .ok (.iload_n 2, 1) := by decide +kernel
theorem d_Model_list_89 : decode b_Model_list 89 = .ok (.if_icmp .ne 37, 3) := by decide +kernel
theorem d_Model_list_92 : decode b_Model_list 92 = .ok (.iload_n 3, 1) := by decide +kernel
theorem d_Model_list_93 : decode b_Model_list 93 = .ok (.ifCond .ne 8, 3) := by decide +kernel
theorem d_Model_list_96 : decode b_Model_list 96 = .ok (.iload 5, 2) := by decide +kernel
theorem d_Model_list_98 : decode b_Model_list 98 = .ok (.goto 27, 3) := by decide +kernel
theorem d_Model_list_101 : decode b_Model_list 101 = .ok (.iload_n 3, 1) := by decide +kernel
theorem d_Model_list_102 : decode b_Model_list 102 = .ok (.iconst 1, 1) := by decide +kernel
theorem d_Model_list_103 : decode b_Model_list 103 = .ok (.if_icmp .ne 8, 3) := by decide +kernel
theorem d_Model_list_106 : decode b_Model_list 106 = .ok (.iload 6, 2) := by decide +kernel
theorem d_Model_list_108 : decode b_Model_list 108 = .ok (.goto 17, 3) := by decide +kernel
theorem d_Model_list_111 : decode b_Model_list 111 = .ok (.aload_n 0, 1) := by decide +kernel
theorem d_Model_list_112 : decode b_Model_list 112 = .ok (.getfield 63, 3) := by decide +kernel
theorem d_Model_list_115 : decode b_Model_list 115 = .ok (.bipush 8, 2) := by decide +kernel
theorem d_Model_list_117 : decode b_Model_list 117 = .ok (.iload 5, 2) := by decide +kernel
theorem d_Model_list_119 : decode b_Model_list 119 = .ok (.imul, 1) := by decide +kernel
theorem d_Model_list_120 : decode b_Model_list 120 = .ok (.iload 6, 2) := by decide +kernel
theorem d_Model_list_122 : decode b_Model_list 122 = .ok (.iadd, 1) := by decide +kernel
theorem d_Model_list_123 : decode b_Model_list 123 = .ok (.laload, 1) := by decide +kernel
theorem d_Model_list_124 : decode b_Model_list 124 = .ok (.l2i, 1) := by decide +kernel
theorem d_Model_list_125 : decode b_Model_list 125 = .ok (.ireturn, 1) := by decide +kernel
theorem d_Model_list_126 : decode b_Model_list 126 = .ok (.iinc 4 1, 3) := by decide +kernel
theorem d_Model_list_129 : decode b_Model_list 129 = .ok (.iinc 6 1, 3) := by decide +kernel
theorem d_Model_list_132 : decode b_Model_list 132 = .ok (.goto (-84), 3) := by decide +kernel
theorem d_Model_list_135 : decode b_Model_list 135 = .ok (.iinc 5 1, 3) := by decide +kernel
theorem d_Model_list_138 : decode b_Model_list 138 = .ok (.goto (-127), 3) := by decide +kernel
theorem d_Model_list_141 : decode b_Model_list 141 = .ok (.iconst (-1), 1) := by decide +kernel
theorem d_Model_list_142 : decode b_Model_list 142 = .ok (.ireturn, 1) := by decide +kernel
abbrev b_Model_mass : ByteArray := prog_7_method_33_code
def y_Model_mass : MethodName := ⟨R_Model, "mass", "(JI)J"⟩
def u_Model_mass : List Cond := Cond.code y_Model_mass b_Model_mass 10 (some .long) :: wG
theorem d_Model_mass_0 : decode b_Model_mass 0 = .ok (.aload_n 0, 1) := by decide +kernel
theorem d_Model_mass_1 : decode b_Model_mass 1 = .ok (.iconst 0, 1) := by decide +kernel
theorem d_Model_mass_2 : decode b_Model_mass 2 = .ok (.putfield 83, 3) := by decide +kernel
theorem d_Model_mass_5 : decode b_Model_mass 5 = .ok (.lload_n 1, 1) := by decide +kernel
theorem d_Model_mass_6 : decode b_Model_mass 6 = .ok (.lconst 0, 1) := by decide +kernel
theorem d_Model_mass_7 : decode b_Model_mass 7 = .ok (.ldc2_w 97, 3) := by decide +kernel
theorem d_Model_mass_10 : decode b_Model_mass 10 = .ok (.invokestatic 89, 3) := by decide +kernel
theorem d_Model_mass_13 : decode b_Model_mass 13 = .ok (.ifCond .eq 28, 3) := by decide +kernel
theorem d_Model_mass_16 : decode b_Model_mass 16 = .ok (.iload_n 3, 1) := by decide +kernel
theorem d_Model_mass_17 : decode b_Model_mass 17 = .ok (.i2l, 1) := by decide +kernel
theorem d_Model_mass_18 : decode b_Model_mass 18 = .ok (.lconst 0, 1) := by decide +kernel
theorem d_Model_mass_19 : decode b_Model_mass 19 = .ok (.ldc2_w 93, 3) := by decide +kernel
theorem d_Model_mass_22 : decode b_Model_mass 22 = .ok (.invokestatic 89, 3) := by decide +kernel
theorem d_Model_mass_25 : decode b_Model_mass 25 = .ok (.ifCond .eq 16, 3) := by decide +kernel
theorem d_Model_mass_28 : decode b_Model_mass 28 = .ok (.iload_n 3, 1) := by decide +kernel
theorem d_Model_mass_29 : decode b_Model_mass 29 = .ok (.iconst 1, 1) := by decide +kernel
theorem d_Model_mass_30 : decode b_Model_mass 30 = .ok (.if_icmp .le 15, 3) := by decide +kernel
theorem d_Model_mass_33 : decode b_Model_mass 33 = .ok (.aload_n 0, 1) := by decide +kernel
theorem d_Model_mass_34 : decode b_Model_mass 34 = .ok (.getfield 102, 3) := by decide +kernel
theorem d_Model_mass_37 : decode b_Model_mass 37 = .ok (.iconst 1, 1) := by decide +kernel
theorem d_Model_mass_38 : decode b_Model_mass 38 = .ok (.if_icmp .eq 7, 3) := by decide +kernel
theorem d_Model_mass_41 : decode b_Model_mass 41 = .ok (.ldc2_w 171, 3) := by decide +kernel
theorem d_Model_mass_44 : decode b_Model_mass 44 = .ok (.lreturn, 1) := by decide +kernel
theorem d_Model_mass_45 : decode b_Model_mass 45 = .ok (.lconst 0, 1) := by decide +kernel
theorem d_Model_mass_46 : decode b_Model_mass 46 = .ok (.lstore 4, 2) := by decide +kernel
theorem d_Model_mass_48 : decode b_Model_mass 48 = .ok (.iconst 0, 1) := by decide +kernel
theorem d_Model_mass_49 : decode b_Model_mass 49 = .ok (.istore 6, 2) := by decide +kernel
theorem d_Model_mass_51 : decode b_Model_mass 51 = .ok (.iload 6, 2) := by decide +kernel
theorem d_Model_mass_53 : decode b_Model_mass 53 = .ok (.aload_n 0, 1) := by decide +kernel
theorem d_Model_mass_54 : decode b_Model_mass 54 = .ok (.getfield 99, 3) := by decide +kernel
theorem d_Model_mass_57 : decode b_Model_mass 57 = .ok (.if_icmp .ge 41, 3) := by decide +kernel
theorem d_Model_mass_60 : decode b_Model_mass 60 = .ok (.iload_n 3, 1) := by decide +kernel
theorem d_Model_mass_61 : decode b_Model_mass 61 = .ok (.ifCond .ne 37, 3) := by decide +kernel
theorem d_Model_mass_64 : decode b_Model_mass 64 = .ok (.aload_n 0, 1) := by decide +kernel
theorem d_Model_mass_65 : decode b_Model_mass 65 = .ok (.getfield 20, 3) := by decide +kernel
theorem d_Model_mass_68 : decode b_Model_mass 68 = .ok (.iload 6, 2) := by decide +kernel
theorem d_Model_mass_70 : decode b_Model_mass 70 = .ok (.laload, 1) := by decide +kernel
theorem d_Model_mass_71 : decode b_Model_mass 71 = .ok (.lload_n 1, 1) := by decide +kernel
theorem d_Model_mass_72 : decode b_Model_mass 72 = .ok (.lcmp, 1) := by decide +kernel
theorem d_Model_mass_73 : decode b_Model_mass 73 = .ok (.ifCond .gt 15, 3) := by decide +kernel
theorem d_Model_mass_76 : decode b_Model_mass 76 = .ok (.lload 4, 2) := by decide +kernel
theorem d_Model_mass_78 : decode b_Model_mass 78 = .ok (.aload_n 0, 1) := by decide +kernel
theorem d_Model_mass_79 : decode b_Model_mass 79 = .ok (.iload 6, 2) := by decide +kernel
theorem d_Model_mass_81 : decode b_Model_mass 81 = .ok (.invokevirtual 126, 3) := by decide +kernel
theorem d_Model_mass_84 : decode b_Model_mass 84 = .ok (.ladd, 1) := by decide +kernel
theorem d_Model_mass_85 : decode b_Model_mass 85 = .ok (.goto 5, 3) := by decide +kernel
theorem d_Model_mass_88 : decode b_Model_mass 88 = .ok (.lload 4, 2) := by decide +kernel
theorem d_Model_mass_90 : decode b_Model_mass 90 = .ok (.lstore 4, 2) := by decide +kernel
theorem d_Model_mass_92 : decode b_Model_mass 92 = .ok (.iinc 6 1, 3) := by decide +kernel
theorem d_Model_mass_95 : decode b_Model_mass 95 = .ok (.goto (-44), 3) := by decide +kernel
theorem d_Model_mass_98 : decode b_Model_mass 98 = .ok (.iconst 0, 1) := by decide +kernel
theorem d_Model_mass_99 : decode b_Model_mass 99 = .ok (.istore 6, 2) := by decide +kernel
theorem d_Model_mass_101 : decode b_Model_mass 101 = .ok (.iload 6, 2) := by decide +kernel
theorem d_Model_mass_103 : decode b_Model_mass 103 = .ok (.aload_n 0, 1) := by decide +kernel
theorem d_Model_mass_104 : decode b_Model_mass 104 = .ok (.getfield 105, 3) := by decide +kernel
theorem d_Model_mass_107 : decode b_Model_mass 107 = .ok (.if_icmp .ge 43, 3) := by decide +kernel
theorem d_Model_mass_110 : decode b_Model_mass 110 = .ok (.iload_n 3, 1) := by decide +kernel
theorem d_Model_mass_111 : decode b_Model_mass 111 = .ok (.iconst 1, 1) := by decide +kernel
theorem d_Model_mass_112 : decode b_Model_mass 112 = .ok (.if_icmp .ne 38, 3) := by decide +kernel
theorem d_Model_mass_115 : decode b_Model_mass 115 = .ok (.aload_n 0, 1) := by decide +kernel
theorem d_Model_mass_116 : decode b_Model_mass 116 = .ok (.getfield 29, 3) := by decide +kernel
theorem d_Model_mass_119 : decode b_Model_mass 119 = .ok (.iload 6, 2) := by decide +kernel
theorem d_Model_mass_121 : decode b_Model_mass 121 = .ok (.laload, 1) := by decide +kernel
theorem d_Model_mass_122 : decode b_Model_mass 122 = .ok (.lload_n 1, 1) := by decide +kernel
theorem d_Model_mass_123 : decode b_Model_mass 123 = .ok (.lcmp, 1) := by decide +kernel
theorem d_Model_mass_124 : decode b_Model_mass 124 = .ok (.ifCond .gt 16, 3) := by decide +kernel
theorem d_Model_mass_127 : decode b_Model_mass 127 = .ok (.lload 4, 2) := by decide +kernel
theorem d_Model_mass_129 : decode b_Model_mass 129 = .ok (.aload_n 0, 1) := by decide +kernel
theorem d_Model_mass_130 : decode b_Model_mass 130 = .ok (.getfield 23, 3) := by decide +kernel
theorem d_Model_mass_133 : decode b_Model_mass 133 = .ok (.iload 6, 2) := by decide +kernel
theorem d_Model_mass_135 : decode b_Model_mass 135 = .ok (.laload, 1) := by decide +kernel
theorem d_Model_mass_136 : decode b_Model_mass 136 = .ok (.ladd, 1) := by decide +kernel
theorem d_Model_mass_137 : decode b_Model_mass 137 = .ok (.goto 5, 3) := by decide +kernel
theorem d_Model_mass_140 : decode b_Model_mass 140 = .ok (.lload 4, 2) := by decide +kernel
theorem d_Model_mass_142 : decode b_Model_mass 142 = .ok (.lstore 4, 2) := by decide +kernel
theorem d_Model_mass_144 : decode b_Model_mass 144 = .ok (.iinc 6 1, 3) := by decide +kernel
theorem d_Model_mass_147 : decode b_Model_mass 147 = .ok (.goto (-46), 3) := by decide +kernel
theorem d_Model_mass_150 : decode b_Model_mass 150 = .ok (.iconst 0, 1) := by decide +kernel
theorem d_Model_mass_151 : decode b_Model_mass 151 = .ok (.istore 6, 2) := by decide +kernel
theorem d_Model_mass_153 : decode b_Model_mass 153 = .ok (.iload 6, 2) := by decide +kernel
theorem d_Model_mass_155 : decode b_Model_mass 155 = .ok (.aload_n 0, 1) := by decide +kernel
theorem d_Model_mass_156 : decode b_Model_mass 156 = .ok (.getfield 99, 3) := by decide +kernel
theorem d_Model_mass_159 : decode b_Model_mass 159 = .ok (.aload_n 0, 1) := by decide +kernel
theorem d_Model_mass_160 : decode b_Model_mass 160 = .ok (.getfield 113, 3) := by decide +kernel
theorem d_Model_mass_163 : decode b_Model_mass 163 = .ok (.iadd, 1) := by decide +kernel
theorem d_Model_mass_164 : decode b_Model_mass 164 = .ok (.if_icmp .ge 114, 3) := by decide +kernel
theorem d_Model_mass_167 : decode b_Model_mass 167 = .ok (.iload_n 3, 1) := by decide +kernel
theorem d_Model_mass_168 : decode b_Model_mass 168 = .ok (.iconst 1, 1) := by decide +kernel
theorem d_Model_mass_169 : decode b_Model_mass 169 = .ok (.if_icmp .le 109, 3) := by decide +kernel
theorem d_Model_mass_172 : decode b_Model_mass 172 = .ok (.iconst 0, 1) := by decide +kernel
theorem d_Model_mass_173 : decode b_Model_mass 173 = .ok (.istore 7, 2) := by decide +kernel
theorem d_Model_mass_175 : decode b_Model_mass 175 = .ok (.iload 7, 2) := by decide +kernel
theorem d_Model_mass_177 : decode b_Model_mass 177 = .ok (.aload_n 0, 1) := by decide +kernel
theorem d_Model_mass_178 : decode b_Model_mass 178 = .ok (.getfield 105, 3) := by decide +kernel
theorem d_Model_mass_181 : decode b_Model_mass 181 = .ok (.if_icmp .ge 91, 3) := by decide +kernel
theorem d_Model_mass_184 : decode b_Model_mass 184 = .ok (.aload_n 0, 1) := by decide +kernel
theorem d_Model_mass_185 : decode b_Model_mass 185 = .ok (.iload 6, 2) := by decide +kernel
theorem d_Model_mass_187 : decode b_Model_mass 187 = .ok (.invokevirtual 118, 3) := by decide +kernel
theorem d_Model_mass_190 : decode b_Model_mass 190 = .ok (.lload_n 1, 1) := by decide +kernel
theorem d_Model_mass_191 : decode b_Model_mass 191 = .ok (.lcmp, 1) := by decide +kernel
theorem d_Model_mass_192 : decode b_Model_mass 192 = .ok (.ifCond .gt 7, 3) := by decide +kernel
theorem d_Model_mass_195 : decode b_Model_mass 195 = .ok (.iconst 1, 1) := by decide +kernel
theorem d_Model_mass_196 : decode b_Model_mass 196 = .ok (.goto 4, 3) := by decide +kernel
theorem d_Model_mass_199 : decode b_Model_mass 199 = .ok (.iconst 0, 1) := by decide +kernel
theorem d_Model_mass_200 : decode b_Model_mass 200 = .ok (.istore 8, 2) := by decide +kernel
theorem d_Model_mass_202 : decode b_Model_mass 202 = .ok (.aload_n 0, 1) := by decide +kernel
theorem d_Model_mass_203 : decode b_Model_mass 203 = .ok (.getfield 29, 3) := by decide +kernel
theorem d_Model_mass_206 : decode b_Model_mass 206 = .ok (.iload 7, 2) := by decide +kernel
theorem d_Model_mass_208 : decode b_Model_mass 208 = .ok (.laload, 1) := by decide +kernel
theorem d_Model_mass_209 : decode b_Model_mass 209 = .ok (.lload_n 1, 1) := by decide +kernel
theorem d_Model_mass_210 : decode b_Model_mass 210 = .ok (.lcmp, 1) := by decide +kernel
theorem d_Model_mass_211 : decode b_Model_mass 211 = .ok (.ifCond .gt 7, 3) := by decide +kernel
theorem d_Model_mass_214 : decode b_Model_mass 214 = .ok (.iconst 1, 1) := by decide +kernel
theorem d_Model_mass_215 : decode b_Model_mass 215 = .ok (.goto 4, 3) := by decide +kernel
theorem d_Model_mass_218 : decode b_Model_mass 218 = .ok (.iconst 0, 1) := by decide +kernel
theorem d_Model_mass_219 : decode b_Model_mass 219 = .ok (.istore 9, 2) := by decide +kernel
theorem d_Model_mass_221 : decode b_Model_mass 221 = .ok (.iload 8, 2) := by decide +kernel
theorem d_Model_mass_223 : decode b_Model_mass 223 = .ok (.iload 9, 2) := by decide +kernel
theorem d_Model_mass_225 : decode b_Model_mass 225 = .ok (.if_icmp .eq 37, 3) := by decide +kernel
theorem d_Model_mass_228 : decode b_Model_mass 228 = .ok (.iload 8, 2) := by decide +kernel
theorem d_Model_mass_230 : decode b_Model_mass 230 = .ok (.iload_n 3, 1) := by decide +kernel
theorem d_Model_mass_231 : decode b_Model_mass 231 = .ok (.iconst 2, 1) := by decide +kernel
theorem d_Model_mass_232 : decode b_Model_mass 232 = .ok (.if_icmp .ne 7, 3) := by decide +kernel
theorem d_Model_mass_235 : decode b_Model_mass 235 = .ok (.iconst 1, 1) := by decide +kernel
theorem d_Model_mass_236 : decode b_Model_mass 236 = .ok (.goto 4, 3) := by decide +kernel
theorem d_Model_mass_239 : decode b_Model_mass 239 = .ok (.iconst 0, 1) := by decide +kernel
theorem d_Model_mass_240 : decode b_Model_mass 240 = .ok (.if_icmp .ne 22, 3) := by decide +kernel
theorem d_Model_mass_243 : decode b_Model_mass 243 = .ok (.lload 4, 2) := by decide +kernel
theorem d_Model_mass_245 : decode b_Model_mass 245 = .ok (.aload_n 0, 1) := by decide +kernel
theorem d_Model_mass_246 : decode b_Model_mass 246 = .ok (.getfield 63, 3) := by decide +kernel
theorem d_Model_mass_249 : decode b_Model_mass 249 = .ok (.bipush 8, 2) := by decide +kernel
theorem d_Model_mass_251 : decode b_Model_mass 251 = .ok (.iload 6, 2) := by decide +kernel
theorem d_Model_mass_253 : decode b_Model_mass 253 = .ok (.imul, 1) := by decide +kernel
theorem d_Model_mass_254 : decode b_Model_mass 254 = .ok (.iload 7, 2) := by decide +kernel
theorem d_Model_mass_256 : decode b_Model_mass 256 = .ok (.iadd, 1) := by decide +kernel
theorem d_Model_mass_257 : decode b_Model_mass 257 = .ok (.laload, 1) := by decide +kernel
theorem d_Model_mass_258 : decode b_Model_mass 258 = .ok (.ladd, 1) := by decide +kernel
theorem d_Model_mass_259 : decode b_Model_mass 259 = .ok (.goto 5, 3) := by decide +kernel
theorem d_Model_mass_262 : decode b_Model_mass 262 = .ok (.lload 4, 2) := by decide +kernel
theorem d_Model_mass_264 : decode b_Model_mass 264 = .ok (.lstore 4, 2) := by decide +kernel
theorem d_Model_mass_266 : decode b_Model_mass 266 = .ok (.iinc 7 1, 3) := by decide +kernel
theorem d_Model_mass_269 : decode b_Model_mass 269 = .ok (.goto (-94), 3) := by decide +kernel
theorem d_Model_mass_272 : decode b_Model_mass 272 = .ok (.iinc 6 1, 3) := by decide +kernel
theorem d_Model_mass_275 : decode b_Model_mass 275 = .ok (.goto (-122), 3) := by decide +kernel
theorem d_Model_mass_278 : decode b_Model_mass 278 = .ok (.lload 4, 2) := by decide +kernel
theorem d_Model_mass_280 : decode b_Model_mass 280 = .ok (.lreturn, 1) := by decide +kernel
abbrev b_Model_check : ByteArray := prog_7_method_34_code
def y_Model_check : MethodName := ⟨R_Model, "check", "()I"⟩
def u_Model_check : List Cond := Cond.code y_Model_check b_Model_check 1 (some .int) :: wG
theorem d_Model_check_0 : decode b_Model_check 0 = .ok (.aload_n 0, 1) := by decide +kernel
theorem d_Model_check_1 : decode b_Model_check 1 = .ok (.iconst 0, 1) := by decide +kernel
theorem d_Model_check_2 : decode b_Model_check 2 = .ok (.putfield 83, 3) := by decide +kernel
theorem d_Model_check_5 : decode b_Model_check 5 = .ok (.aload_n 0, 1) := by decide +kernel
theorem d_Model_check_6 : decode b_Model_check 6 = .ok (.getfield 102, 3) := by decide +kernel
theorem d_Model_check_9 : decode b_Model_check 9 = .ok (.iconst 1, 1) := by decide +kernel
theorem d_Model_check_10 : decode b_Model_check 10 = .ok (.if_icmp .ne 7, 3) := by decide +kernel
theorem d_Model_check_13 : decode b_Model_check 13 = .ok (.iconst 0, 1) := by decide +kernel
theorem d_Model_check_14 : decode b_Model_check 14 = .ok (.goto 4, 3) := by decide +kernel
theorem d_Model_check_17 : decode b_Model_check 17 = .ok (.iconst (-1), 1) := by decide +kernel
theorem d_Model_check_18 : decode b_Model_check 18 = .ok (.ireturn, 1) := by decide +kernel
abbrev b_Model_level : ByteArray := prog_7_method_35_code
def y_Model_level : MethodName := ⟨R_Model, "level", "(II)J"⟩
def u_Model_level : List Cond := Cond.code y_Model_level b_Model_level 6 (some .long) :: wG
theorem d_Model_level_0 : decode b_Model_level 0 = .ok (.aload_n 0, 1) := by decide +kernel
theorem d_Model_level_1 : decode b_Model_level 1 = .ok (.iconst 0, 1) := by decide +kernel
theorem d_Model_level_2 : decode b_Model_level 2 = .ok (.putfield 83, 3) := by decide +kernel
theorem d_Model_level_5 : decode b_Model_level 5 = .ok (.aload_n 0, 1) := by decide +kernel
theorem d_Model_level_6 : decode b_Model_level 6 = .ok (.getfield 102, 3) := by decide +kernel
theorem d_Model_level_9 : decode b_Model_level 9 = .ok (.iconst 1, 1) := by decide +kernel
theorem d_Model_level_10 : decode b_Model_level 10 = .ok (.if_icmp .ne 29, 3) := by decide +kernel
theorem d_Model_level_13 : decode b_Model_level 13 = .ok (.iload_n 1, 1) := by decide +kernel
theorem d_Model_level_14 : decode b_Model_level 14 = .ok (.i2l, 1) := by decide +kernel
theorem d_Model_level_15 : decode b_Model_level 15 = .ok (.lconst 0, 1) := by decide +kernel
theorem d_Model_level_16 : decode b_Model_level 16 = .ok (.aload_n 0, 1) := by decide +kernel
theorem d_Model_level_17 : decode b_Model_level 17 = .ok (.getfield 99, 3) := by decide +kernel
theorem d_Model_level_20 : decode b_Model_level 20 = .ok (.i2l, 1) := by decide +kernel
theorem d_Model_level_21 : decode b_Model_level 21 = .ok (.lconst 1, 1) := by decide +kernel
theorem d_Model_level_22 : decode b_Model_level 22 = .ok (.lsub, 1) := by decide +kernel
theorem d_Model_level_23 : decode b_Model_level 23 = .ok (.invokestatic 89, 3) := by decide +kernel
theorem d_Model_level_26 : decode b_Model_level 26 = .ok (.ifCond .eq 13, 3) := by decide +kernel
theorem d_Model_level_29 : decode b_Model_level 29 = .ok (.iload_n 2, 1) := by decide +kernel
theorem d_Model_level_30 : decode b_Model_level 30 = .ok (.i2l, 1) := by decide +kernel
theorem d_Model_level_31 : decode b_Model_level 31 = .ok (.lconst 0, 1) := by decide +kernel
theorem d_Model_level_32 : decode b_Model_level 32 = .ok (.lconst 1, 1) := by decide +kernel
theorem d_Model_level_33 : decode b_Model_level 33 = .ok (.invokestatic 89, 3) := by decide +kernel
theorem d_Model_level_36 : decode b_Model_level 36 = .ok (.ifCond .ne 7, 3) := by decide +kernel
theorem d_Model_level_39 : decode b_Model_level 39 = .ok (.ldc2_w 171, 3) := by decide +kernel
theorem d_Model_level_42 : decode b_Model_level 42 = .ok (.lreturn, 1) := by decide +kernel
theorem d_Model_level_43 : decode b_Model_level 43 = .ok (.aload_n 0, 1) := by decide +kernel
theorem d_Model_level_44 : decode b_Model_level 44 = .ok (.iload_n 1, 1) := by decide +kernel
theorem d_Model_level_45 : decode b_Model_level 45 = .ok (.invokevirtual 126, 3) := by decide +kernel
theorem d_Model_level_48 : decode b_Model_level 48 = .ok (.lstore_n 3, 1) := by decide +kernel
theorem d_Model_level_49 : decode b_Model_level 49 = .ok (.iconst 0, 1) := by decide +kernel
theorem d_Model_level_50 : decode b_Model_level 50 = .ok (.istore 5, 2) := by decide +kernel
theorem d_Model_level_52 : decode b_Model_level 52 = .ok (.iload 5, 2) := by decide +kernel
theorem d_Model_level_54 : decode b_Model_level 54 = .ok (.aload_n 0, 1) := by decide +kernel
theorem d_Model_level_55 : decode b_Model_level 55 = .ok (.getfield 105, 3) := by decide +kernel
theorem d_Model_level_58 : decode b_Model_level 58 = .ok (.if_icmp .ge 28, 3) := by decide +kernel
theorem d_Model_level_61 : decode b_Model_level 61 = .ok (.iload_n 2, 1) := by decide +kernel
theorem d_Model_level_62 : decode b_Model_level 62 = .ok (.ifCond .ne 24, 3) := by decide +kernel
theorem d_Model_level_65 : decode b_Model_level 65 = .ok (.lload_n 3, 1) := by decide +kernel
theorem d_Model_level_66 : decode b_Model_level 66 = .ok (.aload_n 0, 1) := by decide +kernel
theorem d_Model_level_67 : decode b_Model_level 67 = .ok (.getfield 63, 3) := by decide +kernel
theorem d_Model_level_70 : decode b_Model_level 70 = .ok (.bipush 8, 2) := by decide +kernel
theorem d_Model_level_72 : decode b_Model_level 72 = .ok (.iload_n 1, 1) := by decide +kernel
theorem d_Model_level_73 : decode b_Model_level 73 = .ok (.imul, 1) := by decide +kernel
theorem d_Model_level_74 : decode b_Model_level 74 = .ok (.iload 5, 2) := by decide +kernel
theorem d_Model_level_76 : decode b_Model_level 76 = .ok (.iadd, 1) := by decide +kernel
theorem d_Model_level_77 : decode b_Model_level 77 = .ok (.laload, 1) := by decide +kernel
theorem d_Model_level_78 : decode b_Model_level 78 = .ok (.lsub, 1) := by decide +kernel
theorem d_Model_level_79 : decode b_Model_level 79 = .ok (.lstore_n 3, 1) := by decide +kernel
theorem d_Model_level_80 : decode b_Model_level 80 = .ok (.iinc 5 1, 3) := by decide +kernel
theorem d_Model_level_83 : decode b_Model_level 83 = .ok (.goto (-31), 3) := by decide +kernel
theorem d_Model_level_86 : decode b_Model_level 86 = .ok (.lload_n 3, 1) := by decide +kernel
theorem d_Model_level_87 : decode b_Model_level 87 = .ok (.lreturn, 1) := by decide +kernel
theorem hm_ext {f g : Nat → Int64} {n : Nat} {x : Int64} (h : ∀ v, v < n → f v = g v) (hx : g n = x) : ∀ v, v < n + 1 → vp_updL f n x v = g v := by
  intro v hv
  by_cases e : v = n
  · subst e
    rw [hp_updL]
    exact hx.symm
  · rw [hp_updLn _ _ e]
    exact h v (by omega)
theorem hm_extI {f g : Nat → Int32} {n : Nat} {x : Int32} (h : ∀ v, v < n → f v = g v) (hx : g n = x) : ∀ v, v < n + 1 → upd f n x v = g v := by
  intro v hv
  by_cases e : v = n
  · subst e
    rw [pk_us]
    exact hx.symm
  · rw [pk_un e]
    exact h v (by omega)
def f_Model_moved (VM1 : Nat) (VM2 : Nat) (VM3 : Nat) (VM4 : Nat) (VM5 : Nat) (NM2 : Nat → Nat) (LM1 : Nat → Int64) (LM3 : Nat → Int64) (LM6 : Nat → Int64) (LM7 : Nat → Int64) (LM8 : Nat → Int64) (LM9 : Nat → Int64) (LM10 : Nat → Int64) (LM12 : Nat → Int64) (IM1 : Nat → Int32) (x1 : Int32) (x2 : Int32) (x3 : Int32) : Int64 × (Nat) :=
  if VM5 = 1 then (hh_bind (f_Model_isIn x1.toInt64 0 (((nI (VM1 + VM4)).toInt64) - 1)) (fun y28 => if y28 = 0 then ((-1), 0) else (hh_bind (f_Model_isIn x2.toInt64 0 (((nI VM2).toInt64) - 1)) (fun y44 => if y44 = 0 then ((-1), 0) else (hh_bind (f_Model_isIn x3.toInt64 0 1) (fun y54 => if y54 = 0 then ((-1), 0) else (if x3 = 0 then (LM12 ((8 * x1.toNatClampNeg) + x2.toNatClampNeg), 0) else (hh_bind (f_Model_unit VM1 VM3 NM2 LM1 LM3 LM6 LM7 LM8 LM9 LM10 IM1 x1.toNatClampNeg x2.toNatClampNeg (-2)) (fun y93 => ((LM12 ((8 * x1.toNatClampNeg) + x2.toNatClampNeg)) * y93, 0)))))))))) else ((-1), 0)
set_option maxHeartbeats 4000000 in
set_option maxRecDepth 100000 in
theorem c_Model_moved (l : Launch) (dC : Nat → ClassId) (dI : Nat → Nat → Nat) (cI cJ cZ : ClassId) (sz : Nat) (aM : Nat → Nat) (VM0 : Nat) (VM1 : Nat) (VM2 : Nat) (VM3 : Nat) (VM4 : Nat) (VM5 : Nat) (WM0 : Int64) (NM0 : Nat → Nat) (NM1 : Nat → Nat) (NM2 : Nat → Nat) (LM0 : Nat → Int64) (LM1 : Nat → Int64) (LM2 : Nat → Int64) (LM3 : Nat → Int64) (LM4 : Nat → Int64) (LM5 : Nat → Int64) (LM6 : Nat → Int64) (LM7 : Nat → Int64) (LM8 : Nat → Int64) (LM9 : Nat → Int64) (LM10 : Nat → Int64) (LM11 : Nat → Int64) (LM12 : Nat → Int64) (LM13 : Nat → Int64) (LM14 : Nat → Int64) (LM15 : Nat → Int64) (IM0 : Nat → Int32) (IM1 : Nat → Int32) (IM2 : Nat → Int32) (IM3 : Nat → Int32) (x1 : Int32) (x2 : Int32) (x3 : Int32) (m1 : VM1 ≤ 8) (m2 : VM2 ≤ 8) (m3 : VM3 ≤ 6) (m4 : VM4 ≤ 4) (mk4 : ∀ i, NM0 i < 4) (mcw : ∀ i, NM1 i < 12) (mfw : ∀ i, NM2 i < 12) (msb : ∀ i, i < 4 → ¬ LM5 i = 0) (m5 : VM5 ≤ 2) : hh_Cl l y_Model_moved u_Model_moved ({ frames := 2, cells := 0, slots := 0, locals := 57 }) (dC, dI) vwCl [(cI, .int), (cJ, .long), (cZ, .boolean)] (w_M cI cJ cZ aM VM0 VM1 VM2 VM3 VM4 VM5 WM0 NM0 NM1 NM2 LM0 LM1 LM2 LM3 LM4 LM5 LM6 LM7 LM8 LM9 LM10 LM11 LM12 LM13 LM14 LM15 IM0 IM1 IM2 IM3) sz [.ref (aM 0), .int x1, .int x2, .int x3] ((f_Model_moved VM1 VM2 VM3 VM4 VM5 NM2 LM1 LM3 LM6 LM7 LM8 LM9 LM10 LM12 IM1 x1 x2 x3).1) (w_M cI cJ cZ aM ((f_Model_moved VM1 VM2 VM3 VM4 VM5 NM2 LM1 LM3 LM6 LM7 LM8 LM9 LM10 LM12 IM1 x1 x2 x3).2) VM1 VM2 VM3 VM4 VM5 WM0 NM0 NM1 NM2 LM0 LM1 LM2 LM3 LM4 LM5 LM6 LM7 LM8 LM9 LM10 LM11 LM12 LM13 LM14 LM15 IM0 IM1 IM2 IM3) 0 0 := by
  unfold hh_Cl
  refine Met.ofW (cc := b_Model_moved) (maxL := 6) (ret := (some .long)) (by decide) rfl ?_
  intro p e s m args below meth c s₁ B hml hv
  obtain ⟨rfl, hsz, hP, hK, hD0⟩ := hv
  have hx := B.exec
  have hb := B.bytes
  have hr := B.returns
  have hts := atoms_spec (ws := u_Model_moved) B.pre
  have hG : ∀ w ∈ wG, w.before ([.ref (aM 0), .int x1, .int x2, .int x3]).toArray s = true := fun w h => hts w (List.mem_cons_of_mem _ h)
  have hown : s.vm.findClass R_Model = some m.cls := findClass_of_methodNamed B.named
  have hlocks := B.notSynchronized
  subst hsz
  have hD := hD0.self (sz := s.heap.size)
  generalize hAe : va_A (w_M cI cJ cZ aM VM0 VM1 VM2 VM3 VM4 VM5 WM0 NM0 NM1 NM2 LM0 LM1 LM2 LM3 LM4 LM5 LM6 LM7 LM8 LM9 LM10 LM11 LM12 LM13 LM14 LM15 IM0 IM1 IM2 IM3) s.heap.size = A at hD ⊢
  have hA : ∀ q : Nat, s.heap.size ≤ q → A q := fun q h => by rw [← hAe]; exact Or.inr h
  have hS : va_S A s.heap s.heap [] := va_S.rf
  have hl := lv_entry ([.ref (aM 0), .int x1, .int x2, .int x3]) (n := 6) (Nat.le_of_ble_eq_true rfl)
  rw [lg_entry_eq]
  generalize (lg_sl ([.ref (aM 0), .int x1, .int x2, .int x3]) ++ List.replicate (6 - (lg_sl ([.ref (aM 0), .int x1, .int x2, .int x3])).length) Slot.unset).toArray = ls at hl ⊢
  have hl : lv_has ls 6 [(0, .ref (aM 0)), (1, .int x1), (2, .int x2), (3, .int x3)] := hl
  generalize hR : f_Model_moved VM1 VM2 VM3 VM4 VM5 NM2 LM1 LM3 LM6 LM7 LM8 LM9 LM10 LM12 IM1 x1 x2 x3 = r0
  obtain ⟨H, locs, hHe, hle⟩ : ∃ (H : Heap) (locs : List Loc), s.heap = H ∧ [] = locs := ⟨_, _, rfl, rfl⟩
  have hP : va_P (dC, dI) vwCl (w_M cI cJ cZ aM VM0 VM1 VM2 VM3 VM4 VM5 WM0 NM0 NM1 NM2 LM0 LM1 LM2 LM3 LM4 LM5 LM6 LM7 LM8 LM9 LM10 LM11 LM12 LM13 LM14 LM15 IM0 IM1 IM2 IM3) H := by rw [← hHe]; exact hP
  have hS : va_S A s.heap H locs := by rw [← hHe, ← hle]; exact hS
  refine hw_start hHe hle ?_
  unfold f_Model_moved at hR
  refine lv_aload_n hx hb d_Model_moved_0 rfl (lv_at hl 0 rfl) ?_
  refine lv_iconst (v := nI 0) hx hb d_Model_moved_1 (by decide) ?_
  refine va_put (D := (dC, dI)) (ci := 5) (v := .int (nI 0)) (ty := .int) (C := R_Model) (T := T_Model) (N := 30) hx hb hG in_Model ty_Model tok_Model nok_Model hown hK hP hD hS 0 rfl rfl 0 (by decide) (hG _ m_614) (fun _ h9 => h9) rfl (by decide +kernel) rfl rfl (Nat.le_of_ble_eq_true rfl) d_Model_moved_2 (fun H locs hP hD hS => ?_)
  have hP : va_P (dC, dI) vwCl (w_M cI cJ cZ aM 0 VM1 VM2 VM3 VM4 VM5 WM0 NM0 NM1 NM2 LM0 LM1 LM2 LM3 LM4 LM5 LM6 LM7 LM8 LM9 LM10 LM11 LM12 LM13 LM14 LM15 IM0 IM1 IM2 IM3) H := hP
  have hD : va_D A (w_M cI cJ cZ aM 0 VM1 VM2 VM3 VM4 VM5 WM0 NM0 NM1 NM2 LM0 LM1 LM2 LM3 LM4 LM5 LM6 LM7 LM8 LM9 LM10 LM11 LM12 LM13 LM14 LM15 IM0 IM1 IM2 IM3) := hD
  refine lv_aload_n hx hb d_Model_moved_5 rfl (lv_at hl 0 rfl) ?_
  refine va_get (D := (dC, dI)) (ci := 5) (v := .int (nI VM5)) (C := R_Model) (T := T_Model) (N := 30) hx hb hG in_Model hown hK hP 0 rfl rfl 22 (by decide) (hG _ m_636) (fun _ h9 => h9) rfl d_Model_moved_6 ?_
  refine lv_iconst (v := nI 1) hx hb d_Model_moved_9 (by decide) ?_
  refine hw_icmp_ne (tgt := 60) hx hb d_Model_moved_10 (by decide) (by omega) (by omega) (fun c10 => ?_) (fun c10 => ?_)
  · replace hR := (if_neg c10).symm.trans hR
    refine lv_ldc2 (v := (-1)) hx hb hown (hG _ m_806) d_Model_moved_60 ?_
    subst hR
    exact W.lret (v := (-1)) hx hb hr (fun t ht hW => ⟨⟨_, (), rfl, rfl, by rw [ht]; exact hP, va_K.moved hW.alike hK, hD⟩, hS.F ht⟩) hS.2.2 d_Model_moved_63
  · replace hR := (if_pos c10).symm.trans hR
    refine lv_iload_n hx hb d_Model_moved_13 rfl (lv_at hl 1 rfl) ?_
    refine lv_i2l (v := x1.toInt64) hx hb d_Model_moved_14 rfl ?_
    refine lv_lconst (v := 0) hx hb d_Model_moved_15 (by decide) ?_
    refine lv_aload_n hx hb d_Model_moved_16 rfl (lv_at hl 0 rfl) ?_
    refine va_get (D := (dC, dI)) (ci := 5) (v := .int (nI VM1)) (C := R_Model) (T := T_Model) (N := 30) hx hb hG in_Model hown hK hP 0 rfl rfl 1 (by decide) (hG _ m_615) (fun _ h9 => h9) rfl d_Model_moved_17 ?_
    refine lv_aload_n hx hb d_Model_moved_20 rfl (lv_at hl 0 rfl) ?_
    refine va_get (D := (dC, dI)) (ci := 5) (v := .int (nI VM4)) (C := R_Model) (T := T_Model) (N := 30) hx hb hG in_Model hown hK hP 0 rfl rfl 18 (by decide) (hG _ m_632) (fun _ h9 => h9) rfl d_Model_moved_21 ?_
    refine hw_iadd hx hb d_Model_moved_24 ?_
    refine lv_i2l (v := (nI (VM1 + VM4)).toInt64) hx hb d_Model_moved_25 rfl ?_
    refine lv_lconst (v := 1) hx hb d_Model_moved_26 (by decide) ?_
    refine lv_lsub hx hb d_Model_moved_27 ?_
    obtain ⟨y28, hy28, hR⟩ := hw_bind hR
    have hM := c_Model_isIn l dC dI cI cJ cZ H.size x1.toInt64 0 (((nI (VM1 + VM4)).toInt64) - 1)
    rw [hy28] at hM
    refine hw_callSi (As := [.long x1.toInt64, .long 0, .long (((nI (VM1 + VM4)).toInt64) - 1)]) (rest := []) (wr := w_M cI cJ cZ aM 0 VM1 VM2 VM3 VM4 VM5 WM0 NM0 NM1 NM2 LM0 LM1 LM2 LM3 LM4 LM5 LM6 LM7 LM8 LM9 LM10 LM11 LM12 LM13 LM14 LM15 IM0 IM1 IM2 IM3) ⟨hx, hb, hml, hown, hG⟩ hM (hw_cwS 3 hG m_714 m_715 m_7 m_716 rfl rfl (by decide +kernel) ⟨Nat.le_of_ble_eq_true rfl, Nat.le_of_ble_eq_true rfl⟩) hK hP hD hS hA [] [0, 1, 2, 3, 4, 5, 6, 7, 8, 9, 10, 11, 12, 13, 14, 15, 16, 17, 18, 19, 20, 21, 22, 23] rfl rfl (by decide) (by decide) (by decide) rfl hl.1 rfl (Nat.le_of_ble_eq_true rfl) d_Model_moved_28 ⟨Nat.le_of_ble_eq_true rfl, Nat.le_of_ble_eq_true rfl⟩ (fun H locs hP hD hS => ?_)
    have hP : va_P (dC, dI) vwCl (w_M cI cJ cZ aM 0 VM1 VM2 VM3 VM4 VM5 WM0 NM0 NM1 NM2 LM0 LM1 LM2 LM3 LM4 LM5 LM6 LM7 LM8 LM9 LM10 LM11 LM12 LM13 LM14 LM15 IM0 IM1 IM2 IM3) H := hP
    have hD : va_D A (w_M cI cJ cZ aM 0 VM1 VM2 VM3 VM4 VM5 WM0 NM0 NM1 NM2 LM0 LM1 LM2 LM3 LM4 LM5 LM6 LM7 LM8 LM9 LM10 LM11 LM12 LM13 LM14 LM15 IM0 IM1 IM2 IM3) := hD
    have hbl28 := hm_in (x := x1) (n := VM1 + VM4) (hi := ((nI (VM1 + VM4)).toInt64) - 1) (hm_fm (by omega))
    rw [hy28] at hbl28
    refine lv_if_eq (tgt := 60) hx hb d_Model_moved_31 (by decide) (fun c31 => ?_) (fun c31 => ?_)
    · replace hR := (if_pos c31).symm.trans hR
      refine lv_ldc2 (v := (-1)) hx hb hown (hG _ m_806) d_Model_moved_60 ?_
      subst hR
      exact W.lret (v := (-1)) hx hb hr (fun t ht hW => ⟨⟨_, (), rfl, rfl, by rw [ht]; exact hP, va_K.moved hW.alike hK, hD⟩, hS.F ht⟩) hS.2.2 d_Model_moved_63
    · replace hR := (if_neg c31).symm.trans hR
      refine lv_iload_n hx hb d_Model_moved_34 rfl (lv_at hl 2 rfl) ?_
      refine lv_i2l (v := x2.toInt64) hx hb d_Model_moved_35 rfl ?_
      refine lv_lconst (v := 0) hx hb d_Model_moved_36 (by decide) ?_
      refine lv_aload_n hx hb d_Model_moved_37 rfl (lv_at hl 0 rfl) ?_
      refine va_get (D := (dC, dI)) (ci := 5) (v := .int (nI VM2)) (C := R_Model) (T := T_Model) (N := 30) hx hb hG in_Model hown hK hP 0 rfl rfl 6 (by decide) (hG _ m_620) (fun _ h9 => h9) rfl d_Model_moved_38 ?_
      refine lv_i2l (v := (nI VM2).toInt64) hx hb d_Model_moved_41 rfl ?_
      refine lv_lconst (v := 1) hx hb d_Model_moved_42 (by decide) ?_
      refine lv_lsub hx hb d_Model_moved_43 ?_
      obtain ⟨y44, hy44, hR⟩ := hw_bind hR
      have hM := c_Model_isIn l dC dI cI cJ cZ H.size x2.toInt64 0 (((nI VM2).toInt64) - 1)
      rw [hy44] at hM
      refine hw_callSi (As := [.long x2.toInt64, .long 0, .long (((nI VM2).toInt64) - 1)]) (rest := []) (wr := w_M cI cJ cZ aM 0 VM1 VM2 VM3 VM4 VM5 WM0 NM0 NM1 NM2 LM0 LM1 LM2 LM3 LM4 LM5 LM6 LM7 LM8 LM9 LM10 LM11 LM12 LM13 LM14 LM15 IM0 IM1 IM2 IM3) ⟨hx, hb, hml, hown, hG⟩ hM (hw_cwS 3 hG m_714 m_715 m_7 m_716 rfl rfl (by decide +kernel) ⟨Nat.le_of_ble_eq_true rfl, Nat.le_of_ble_eq_true rfl⟩) hK hP hD hS hA [] [0, 1, 2, 3, 4, 5, 6, 7, 8, 9, 10, 11, 12, 13, 14, 15, 16, 17, 18, 19, 20, 21, 22, 23] rfl rfl (by decide) (by decide) (by decide) rfl hl.1 rfl (Nat.le_of_ble_eq_true rfl) d_Model_moved_44 ⟨Nat.le_of_ble_eq_true rfl, Nat.le_of_ble_eq_true rfl⟩ (fun H locs hP hD hS => ?_)
      have hP : va_P (dC, dI) vwCl (w_M cI cJ cZ aM 0 VM1 VM2 VM3 VM4 VM5 WM0 NM0 NM1 NM2 LM0 LM1 LM2 LM3 LM4 LM5 LM6 LM7 LM8 LM9 LM10 LM11 LM12 LM13 LM14 LM15 IM0 IM1 IM2 IM3) H := hP
      have hD : va_D A (w_M cI cJ cZ aM 0 VM1 VM2 VM3 VM4 VM5 WM0 NM0 NM1 NM2 LM0 LM1 LM2 LM3 LM4 LM5 LM6 LM7 LM8 LM9 LM10 LM11 LM12 LM13 LM14 LM15 IM0 IM1 IM2 IM3) := hD
      have hbl44 := hm_in (x := x2) (n := VM2) (hi := ((nI VM2).toInt64) - 1) (hm_fm (by omega))
      rw [hy44] at hbl44
      refine lv_if_eq (tgt := 60) hx hb d_Model_moved_47 (by decide) (fun c47 => ?_) (fun c47 => ?_)
      · replace hR := (if_pos c47).symm.trans hR
        refine lv_ldc2 (v := (-1)) hx hb hown (hG _ m_806) d_Model_moved_60 ?_
        subst hR
        exact W.lret (v := (-1)) hx hb hr (fun t ht hW => ⟨⟨_, (), rfl, rfl, by rw [ht]; exact hP, va_K.moved hW.alike hK, hD⟩, hS.F ht⟩) hS.2.2 d_Model_moved_63
      · replace hR := (if_neg c47).symm.trans hR
        refine lv_iload_n hx hb d_Model_moved_50 rfl (lv_at hl 3 rfl) ?_
        refine lv_i2l (v := x3.toInt64) hx hb d_Model_moved_51 rfl ?_
        refine lv_lconst (v := 0) hx hb d_Model_moved_52 (by decide) ?_
        refine lv_lconst (v := 1) hx hb d_Model_moved_53 (by decide) ?_
        obtain ⟨y54, hy54, hR⟩ := hw_bind hR
        have hM := c_Model_isIn l dC dI cI cJ cZ H.size x3.toInt64 0 1
        rw [hy54] at hM
        refine hw_callSi (As := [.long x3.toInt64, .long 0, .long 1]) (rest := []) (wr := w_M cI cJ cZ aM 0 VM1 VM2 VM3 VM4 VM5 WM0 NM0 NM1 NM2 LM0 LM1 LM2 LM3 LM4 LM5 LM6 LM7 LM8 LM9 LM10 LM11 LM12 LM13 LM14 LM15 IM0 IM1 IM2 IM3) ⟨hx, hb, hml, hown, hG⟩ hM (hw_cwS 3 hG m_714 m_715 m_7 m_716 rfl rfl (by decide +kernel) ⟨Nat.le_of_ble_eq_true rfl, Nat.le_of_ble_eq_true rfl⟩) hK hP hD hS hA [] [0, 1, 2, 3, 4, 5, 6, 7, 8, 9, 10, 11, 12, 13, 14, 15, 16, 17, 18, 19, 20, 21, 22, 23] rfl rfl (by decide) (by decide) (by decide) rfl hl.1 rfl (Nat.le_of_ble_eq_true rfl) d_Model_moved_54 ⟨Nat.le_of_ble_eq_true rfl, Nat.le_of_ble_eq_true rfl⟩ (fun H locs hP hD hS => ?_)
        have hP : va_P (dC, dI) vwCl (w_M cI cJ cZ aM 0 VM1 VM2 VM3 VM4 VM5 WM0 NM0 NM1 NM2 LM0 LM1 LM2 LM3 LM4 LM5 LM6 LM7 LM8 LM9 LM10 LM11 LM12 LM13 LM14 LM15 IM0 IM1 IM2 IM3) H := hP
        have hD : va_D A (w_M cI cJ cZ aM 0 VM1 VM2 VM3 VM4 VM5 WM0 NM0 NM1 NM2 LM0 LM1 LM2 LM3 LM4 LM5 LM6 LM7 LM8 LM9 LM10 LM11 LM12 LM13 LM14 LM15 IM0 IM1 IM2 IM3) := hD
        have hbl54 := hm_in (x := x3) (n := 2) (hi := 1) (by decide)
        rw [hy54] at hbl54
        refine lv_if_ne (tgt := 64) hx hb d_Model_moved_57 (by decide) (fun c57 => ?_) (fun c57 => ?_)
        · replace hR := (if_neg c57).symm.trans hR
          obtain ⟨hna1, hnb1⟩ := hbl28 c31
          obtain ⟨hna2, hnb2⟩ := hbl44 c47
          have en64_1 : nI (x1.toNatClampNeg) = x1 := hw_nat hna1
          have hl : lv_has ls 6 [(0, .ref (aM 0)), (1, .int (nI x1.toNatClampNeg)), (2, .int x2), (3, .int x3)] := by rw [en64_1]; exact hl
          have en64_2 : nI (x2.toNatClampNeg) = x2 := hw_nat hna2
          have hl : lv_has ls 6 [(0, .ref (aM 0)), (1, .int (nI x1.toNatClampNeg)), (2, .int (nI x2.toNatClampNeg)), (3, .int x3)] := by rw [en64_2]; exact hl
          refine lv_aload_n hx hb d_Model_moved_64 rfl (lv_at hl 0 rfl) ?_
          refine va_get (D := (dC, dI)) (ci := 5) (v := .ref (aM 18)) (C := R_Model) (T := T_Model) (N := 30) hx hb hG in_Model hown hK hP 0 rfl rfl 23 (by decide) (hG _ m_637) (fun _ h9 => h9) rfl d_Model_moved_65 ?_
          refine lv_bipush (v := nI 8) hx hb d_Model_moved_68 (by decide) ?_
          refine lv_iload_n hx hb d_Model_moved_70 rfl (lv_at hl 1 rfl) ?_
          refine hw_imul hx hb d_Model_moved_71 ?_
          refine lv_iload_n hx hb d_Model_moved_72 rfl (lv_at hl 2 rfl) ?_
          refine hw_iadd hx hb d_Model_moved_73 ?_
          refine hw_lald (f := LM12) hx hb hK hP 18 1 rfl rfl (by decide) (by omega) d_Model_moved_74 ?_
          refine lv_lstore (lv' := [(4, .long (LM12 ((8 * x1.toNatClampNeg) + x2.toNatClampNeg))), (0, .ref (aM 0)), (1, .int (nI x1.toNatClampNeg)), (2, .int (nI x2.toNatClampNeg)), (3, .int x3)]) hx hb d_Model_moved_75 hl (by decide) rfl (fun ls hl => ?_)
          refine lv_iload_n hx hb d_Model_moved_77 rfl (lv_at hl 4 rfl) ?_
          refine lv_if_ne (tgt := 86) hx hb d_Model_moved_78 (by decide) (fun c78 => ?_) (fun c78 => ?_)
          · replace hR := (if_neg c78).symm.trans hR
            refine lv_lload hx hb d_Model_moved_86 (lv_at hl 0 rfl) ?_
            refine lv_aload_n hx hb d_Model_moved_88 rfl (lv_at hl 1 rfl) ?_
            refine lv_iload_n hx hb d_Model_moved_89 rfl (lv_at hl 2 rfl) ?_
            refine lv_iload_n hx hb d_Model_moved_90 rfl (lv_at hl 3 rfl) ?_
            refine lv_bipush (v := (-2)) hx hb d_Model_moved_91 (by decide) ?_
            obtain ⟨y93, hy93, hR⟩ := hw_bind hR
            have hM := c_Model_unit l dC dI cI cJ cZ H.size aM 0 VM1 VM2 VM3 VM4 VM5 WM0 NM0 NM1 NM2 LM0 LM1 LM2 LM3 LM4 LM5 LM6 LM7 LM8 LM9 LM10 LM11 LM12 LM13 LM14 LM15 IM0 IM1 IM2 IM3 x1.toNatClampNeg x2.toNatClampNeg (-2) (by first | assumption | omega) (by first | assumption | omega) (by first | assumption | omega) (by first | assumption | omega) (by first | assumption | omega) (by first | assumption | omega)
            rw [hy93] at hM
            refine hw_callVl (As := [.int (nI x1.toNatClampNeg), .int (nI x2.toNatClampNeg), .int (-2)]) (rest := [.long (LM12 ((8 * x1.toNatClampNeg) + x2.toNatClampNeg))]) (wr := ([] : va_W)) ⟨hx, hb, hml, hown, hG⟩ hM (hw_cwV 3 hG m_766 m_768 mp_24 m_7 m_769 rfl rfl (by decide +kernel) ⟨Nat.le_of_ble_eq_true rfl, Nat.le_of_ble_eq_true rfl⟩) hK hP hD hS hA [0, 1, 2, 3, 4, 5, 6, 7, 8, 9, 10, 11, 12, 13, 14, 15, 16, 17, 18, 19, 20, 21, 22, 23] [] rfl rfl (by decide) (by decide) (by decide) (hw_recv hK hP 0 rfl rfl) rfl hl.1 rfl (Nat.le_of_ble_eq_true rfl) d_Model_moved_93 ⟨Nat.le_of_ble_eq_true rfl, Nat.le_of_ble_eq_true rfl⟩ (fun H locs hP hD hS => ?_)
            have hP : va_P (dC, dI) vwCl (w_M cI cJ cZ aM 0 VM1 VM2 VM3 VM4 VM5 WM0 NM0 NM1 NM2 LM0 LM1 LM2 LM3 LM4 LM5 LM6 LM7 LM8 LM9 LM10 LM11 LM12 LM13 LM14 LM15 IM0 IM1 IM2 IM3) H := hP
            have hD : va_D A (w_M cI cJ cZ aM 0 VM1 VM2 VM3 VM4 VM5 WM0 NM0 NM1 NM2 LM0 LM1 LM2 LM3 LM4 LM5 LM6 LM7 LM8 LM9 LM10 LM11 LM12 LM13 LM14 LM15 IM0 IM1 IM2 IM3) := hD
            refine lv_lmul hx hb d_Model_moved_96 ?_
            subst hR
            exact W.lret (v := (LM12 ((8 * x1.toNatClampNeg) + x2.toNatClampNeg)) * y93) hx hb hr (fun t ht hW => ⟨⟨_, (), rfl, rfl, by rw [ht]; exact hP, va_K.moved hW.alike hK, hD⟩, hS.F ht⟩) hS.2.2 d_Model_moved_97
          · replace hR := (if_pos c78).symm.trans hR
            refine lv_lload hx hb d_Model_moved_81 (lv_at hl 0 rfl) ?_
            refine lv_goto (tgt := 97) hx hb d_Model_moved_83 (by decide) ?_
            subst hR
            exact W.lret (v := LM12 ((8 * x1.toNatClampNeg) + x2.toNatClampNeg)) hx hb hr (fun t ht hW => ⟨⟨_, (), rfl, rfl, by rw [ht]; exact hP, va_K.moved hW.alike hK, hD⟩, hS.F ht⟩) hS.2.2 d_Model_moved_97
        · replace hR := (if_pos c57).symm.trans hR
          refine lv_ldc2 (v := (-1)) hx hb hown (hG _ m_806) d_Model_moved_60 ?_
          subst hR
          exact W.lret (v := (-1)) hx hb hr (fun t ht hW => ⟨⟨_, (), rfl, rfl, by rw [ht]; exact hP, va_K.moved hW.alike hK, hD⟩, hS.F ht⟩) hS.2.2 d_Model_moved_63
def f_Model_cost_h72B (VM2 : Nat) (LM12 : Nat → Int64) (x4_55 : Nat) (k_72 : (Int64) → (Nat) → Int64 × (Nat)) (rec_72 : (Int64) → (Nat) → Int64 × (Nat)) (x2_72 : Int64) (x5_72 : Nat) : Int64 × (Nat) :=
  if VM2 ≤ x5_72 then (k_72 x2_72 x5_72) else (rec_72 (x2_72 + (LM12 ((8 * x4_55) + x5_72))) (x5_72 + 1))
def f_Model_cost_h72 (VM2 : Nat) (LM12 : Nat → Int64) (x4_55 : Nat) (k_72 : (Int64) → (Nat) → Int64 × (Nat)) : Nat → (Int64) → (Nat) → Int64 × (Nat)
  | 0, x2_72, x5_72 => k_72 x2_72 x5_72
  | n + 1, x2_72, x5_72 => f_Model_cost_h72B VM2 LM12 x4_55 k_72 (fun x2_72 x5_72 => f_Model_cost_h72 VM2 LM12 x4_55 k_72 n x2_72 x5_72) x2_72 x5_72
def f_Model_cost_x72 (rec_55 : (Int64) → (Nat) → Int64 × (Nat)) (x4_55 : Nat) (x2_72 : Int64) (x5_72 : Nat) : Int64 × (Nat) :=
  rec_55 x2_72 (x4_55 + 1)
def f_Model_cost_h55B (VM1 : Nat) (VM4 : Nat) (VM2 : Nat) (LM12 : Nat → Int64) (k_55 : (Int64) → (Nat) → Int64 × (Nat)) (rec_55 : (Int64) → (Nat) → Int64 × (Nat)) (x2_55 : Int64) (x4_55 : Nat) : Int64 × (Nat) :=
  if (VM1 + VM4) ≤ x4_55 then (k_55 x2_55 x4_55) else (f_Model_cost_h72 VM2 LM12 x4_55 (f_Model_cost_x72 rec_55 x4_55) 9 x2_55 0)
def f_Model_cost_h55 (VM1 : Nat) (VM4 : Nat) (VM2 : Nat) (LM12 : Nat → Int64) (k_55 : (Int64) → (Nat) → Int64 × (Nat)) : Nat → (Int64) → (Nat) → Int64 × (Nat)
  | 0, x2_55, x4_55 => k_55 x2_55 x4_55
  | n + 1, x2_55, x4_55 => f_Model_cost_h55B VM1 VM4 VM2 LM12 k_55 (fun x2_55 x4_55 => f_Model_cost_h55 VM1 VM4 VM2 LM12 k_55 n x2_55 x4_55) x2_55 x4_55
def f_Model_cost_x55  (x2_55 : Int64) (x4_55 : Nat) : Int64 × (Nat) :=
  (x2_55, 0)
def f_Model_cost (VM1 : Nat) (VM2 : Nat) (VM4 : Nat) (VM5 : Nat) (WM0 : Int64) (LM12 : Nat → Int64) (x1 : Int32) : Int64 × (Nat) :=
  if VM5 = 1 then (hh_bind (f_Model_isIn x1.toInt64 0 2) (fun y19 => if y19 = 0 then ((-1), 0) else (if x1 = 0 then (WM0, 0) else (if x1 = (nI 1) then (f_Model_cost_h55 VM1 VM4 VM2 LM12 f_Model_cost_x55 13 0 0) else (f_Model_cost_h55 VM1 VM4 VM2 LM12 f_Model_cost_x55 13 0 VM1))))) else ((-1), 0)
set_option maxHeartbeats 4000000 in
set_option maxRecDepth 100000 in
theorem c_Model_cost (l : Launch) (dC : Nat → ClassId) (dI : Nat → Nat → Nat) (cI cJ cZ : ClassId) (sz : Nat) (aM : Nat → Nat) (VM0 : Nat) (VM1 : Nat) (VM2 : Nat) (VM3 : Nat) (VM4 : Nat) (VM5 : Nat) (WM0 : Int64) (NM0 : Nat → Nat) (NM1 : Nat → Nat) (NM2 : Nat → Nat) (LM0 : Nat → Int64) (LM1 : Nat → Int64) (LM2 : Nat → Int64) (LM3 : Nat → Int64) (LM4 : Nat → Int64) (LM5 : Nat → Int64) (LM6 : Nat → Int64) (LM7 : Nat → Int64) (LM8 : Nat → Int64) (LM9 : Nat → Int64) (LM10 : Nat → Int64) (LM11 : Nat → Int64) (LM12 : Nat → Int64) (LM13 : Nat → Int64) (LM14 : Nat → Int64) (LM15 : Nat → Int64) (IM0 : Nat → Int32) (IM1 : Nat → Int32) (IM2 : Nat → Int32) (IM3 : Nat → Int32) (x1 : Int32) (m1 : VM1 ≤ 8) (m2 : VM2 ≤ 8) (m3 : VM3 ≤ 6) (m4 : VM4 ≤ 4) (mk4 : ∀ i, NM0 i < 4) (mcw : ∀ i, NM1 i < 12) (mfw : ∀ i, NM2 i < 12) (msb : ∀ i, i < 4 → ¬ LM5 i = 0) (m5 : VM5 ≤ 2) : hh_Cl l y_Model_cost u_Model_cost ({ frames := 1, cells := 0, slots := 0, locals := 25 }) (dC, dI) vwCl [(cI, .int), (cJ, .long), (cZ, .boolean)] (w_M cI cJ cZ aM VM0 VM1 VM2 VM3 VM4 VM5 WM0 NM0 NM1 NM2 LM0 LM1 LM2 LM3 LM4 LM5 LM6 LM7 LM8 LM9 LM10 LM11 LM12 LM13 LM14 LM15 IM0 IM1 IM2 IM3) sz [.ref (aM 0), .int x1] ((f_Model_cost VM1 VM2 VM4 VM5 WM0 LM12 x1).1) (w_M cI cJ cZ aM ((f_Model_cost VM1 VM2 VM4 VM5 WM0 LM12 x1).2) VM1 VM2 VM3 VM4 VM5 WM0 NM0 NM1 NM2 LM0 LM1 LM2 LM3 LM4 LM5 LM6 LM7 LM8 LM9 LM10 LM11 LM12 LM13 LM14 LM15 IM0 IM1 IM2 IM3) 0 0 := by
  unfold hh_Cl
  refine Met.ofW (cc := b_Model_cost) (maxL := 6) (ret := (some .long)) (by decide) rfl ?_
  intro p e s m args below meth c s₁ B hml hv
  obtain ⟨rfl, hsz, hP, hK, hD0⟩ := hv
  have hx := B.exec
  have hb := B.bytes
  have hr := B.returns
  have hts := atoms_spec (ws := u_Model_cost) B.pre
  have hG : ∀ w ∈ wG, w.before ([.ref (aM 0), .int x1]).toArray s = true := fun w h => hts w (List.mem_cons_of_mem _ h)
  have hown : s.vm.findClass R_Model = some m.cls := findClass_of_methodNamed B.named
  have hlocks := B.notSynchronized
  subst hsz
  have hD := hD0.self (sz := s.heap.size)
  generalize hAe : va_A (w_M cI cJ cZ aM VM0 VM1 VM2 VM3 VM4 VM5 WM0 NM0 NM1 NM2 LM0 LM1 LM2 LM3 LM4 LM5 LM6 LM7 LM8 LM9 LM10 LM11 LM12 LM13 LM14 LM15 IM0 IM1 IM2 IM3) s.heap.size = A at hD ⊢
  have hA : ∀ q : Nat, s.heap.size ≤ q → A q := fun q h => by rw [← hAe]; exact Or.inr h
  have hS : va_S A s.heap s.heap [] := va_S.rf
  have hl := lv_entry ([.ref (aM 0), .int x1]) (n := 6) (Nat.le_of_ble_eq_true rfl)
  rw [lg_entry_eq]
  generalize (lg_sl ([.ref (aM 0), .int x1]) ++ List.replicate (6 - (lg_sl ([.ref (aM 0), .int x1])).length) Slot.unset).toArray = ls at hl ⊢
  have hl : lv_has ls 6 [(0, .ref (aM 0)), (1, .int x1)] := hl
  generalize hR : f_Model_cost VM1 VM2 VM4 VM5 WM0 LM12 x1 = r0
  obtain ⟨H, locs, hHe, hle⟩ : ∃ (H : Heap) (locs : List Loc), s.heap = H ∧ [] = locs := ⟨_, _, rfl, rfl⟩
  have hP : va_P (dC, dI) vwCl (w_M cI cJ cZ aM VM0 VM1 VM2 VM3 VM4 VM5 WM0 NM0 NM1 NM2 LM0 LM1 LM2 LM3 LM4 LM5 LM6 LM7 LM8 LM9 LM10 LM11 LM12 LM13 LM14 LM15 IM0 IM1 IM2 IM3) H := by rw [← hHe]; exact hP
  have hS : va_S A s.heap H locs := by rw [← hHe, ← hle]; exact hS
  refine hw_start hHe hle ?_
  unfold f_Model_cost at hR
  refine lv_aload_n hx hb d_Model_cost_0 rfl (lv_at hl 0 rfl) ?_
  refine lv_iconst (v := nI 0) hx hb d_Model_cost_1 (by decide) ?_
  refine va_put (D := (dC, dI)) (ci := 5) (v := .int (nI 0)) (ty := .int) (C := R_Model) (T := T_Model) (N := 30) hx hb hG in_Model ty_Model tok_Model nok_Model hown hK hP hD hS 0 rfl rfl 0 (by decide) (hG _ m_614) (fun _ h9 => h9) rfl (by decide +kernel) rfl rfl (Nat.le_of_ble_eq_true rfl) d_Model_cost_2 (fun H locs hP hD hS => ?_)
  have hP : va_P (dC, dI) vwCl (w_M cI cJ cZ aM 0 VM1 VM2 VM3 VM4 VM5 WM0 NM0 NM1 NM2 LM0 LM1 LM2 LM3 LM4 LM5 LM6 LM7 LM8 LM9 LM10 LM11 LM12 LM13 LM14 LM15 IM0 IM1 IM2 IM3) H := hP
  have hD : va_D A (w_M cI cJ cZ aM 0 VM1 VM2 VM3 VM4 VM5 WM0 NM0 NM1 NM2 LM0 LM1 LM2 LM3 LM4 LM5 LM6 LM7 LM8 LM9 LM10 LM11 LM12 LM13 LM14 LM15 IM0 IM1 IM2 IM3) := hD
  refine lv_aload_n hx hb d_Model_cost_5 rfl (lv_at hl 0 rfl) ?_
  refine va_get (D := (dC, dI)) (ci := 5) (v := .int (nI VM5)) (C := R_Model) (T := T_Model) (N := 30) hx hb hG in_Model hown hK hP 0 rfl rfl 22 (by decide) (hG _ m_636) (fun _ h9 => h9) rfl d_Model_cost_6 ?_
  refine lv_iconst (v := nI 1) hx hb d_Model_cost_9 (by decide) ?_
  refine hw_icmp_ne (tgt := 25) hx hb d_Model_cost_10 (by decide) (by omega) (by omega) (fun c10 => ?_) (fun c10 => ?_)
  · replace hR := (if_neg c10).symm.trans hR
    refine lv_ldc2 (v := (-1)) hx hb hown (hG _ m_806) d_Model_cost_25 ?_
    subst hR
    exact W.lret (v := (-1)) hx hb hr (fun t ht hW => ⟨⟨_, (), rfl, rfl, by rw [ht]; exact hP, va_K.moved hW.alike hK, hD⟩, hS.F ht⟩) hS.2.2 d_Model_cost_28
  · replace hR := (if_pos c10).symm.trans hR
    refine lv_iload_n hx hb d_Model_cost_13 rfl (lv_at hl 1 rfl) ?_
    refine lv_i2l (v := x1.toInt64) hx hb d_Model_cost_14 rfl ?_
    refine lv_lconst (v := 0) hx hb d_Model_cost_15 (by decide) ?_
    refine lv_ldc2 (v := 2) hx hb hown (hG _ m_815) d_Model_cost_16 ?_
    obtain ⟨y19, hy19, hR⟩ := hw_bind hR
    have hM := c_Model_isIn l dC dI cI cJ cZ H.size x1.toInt64 0 2
    rw [hy19] at hM
    refine hw_callSi (As := [.long x1.toInt64, .long 0, .long 2]) (rest := []) (wr := w_M cI cJ cZ aM 0 VM1 VM2 VM3 VM4 VM5 WM0 NM0 NM1 NM2 LM0 LM1 LM2 LM3 LM4 LM5 LM6 LM7 LM8 LM9 LM10 LM11 LM12 LM13 LM14 LM15 IM0 IM1 IM2 IM3) ⟨hx, hb, hml, hown, hG⟩ hM (hw_cwS 3 hG m_714 m_715 m_7 m_716 rfl rfl (by decide +kernel) ⟨Nat.le_of_ble_eq_true rfl, Nat.le_of_ble_eq_true rfl⟩) hK hP hD hS hA [] [0, 1, 2, 3, 4, 5, 6, 7, 8, 9, 10, 11, 12, 13, 14, 15, 16, 17, 18, 19, 20, 21, 22, 23] rfl rfl (by decide) (by decide) (by decide) rfl hl.1 rfl (Nat.le_of_ble_eq_true rfl) d_Model_cost_19 ⟨Nat.le_of_ble_eq_true rfl, Nat.le_of_ble_eq_true rfl⟩ (fun H locs hP hD hS => ?_)
    have hP : va_P (dC, dI) vwCl (w_M cI cJ cZ aM 0 VM1 VM2 VM3 VM4 VM5 WM0 NM0 NM1 NM2 LM0 LM1 LM2 LM3 LM4 LM5 LM6 LM7 LM8 LM9 LM10 LM11 LM12 LM13 LM14 LM15 IM0 IM1 IM2 IM3) H := hP
    have hD : va_D A (w_M cI cJ cZ aM 0 VM1 VM2 VM3 VM4 VM5 WM0 NM0 NM1 NM2 LM0 LM1 LM2 LM3 LM4 LM5 LM6 LM7 LM8 LM9 LM10 LM11 LM12 LM13 LM14 LM15 IM0 IM1 IM2 IM3) := hD
    have hbl19 := hm_in (x := x1) (n := 3) (hi := 2) (by decide)
    rw [hy19] at hbl19
    refine lv_if_ne (tgt := 29) hx hb d_Model_cost_22 (by decide) (fun c22 => ?_) (fun c22 => ?_)
    · replace hR := (if_neg c22).symm.trans hR
      refine lv_iload_n hx hb d_Model_cost_29 rfl (lv_at hl 1 rfl) ?_
      refine lv_if_ne (tgt := 38) hx hb d_Model_cost_30 (by decide) (fun c30 => ?_) (fun c30 => ?_)
      · replace hR := (if_neg c30).symm.trans hR
        refine lv_lconst (v := 0) hx hb d_Model_cost_38 (by decide) ?_
        refine lv_lstore_n (lv' := [(2, .long 0), (0, .ref (aM 0)), (1, .int x1)]) hx hb d_Model_cost_39 rfl hl (by decide) rfl (fun ls hl => ?_)
        refine lv_iload_n hx hb d_Model_cost_40 rfl (lv_at hl 2 rfl) ?_
        refine lv_iconst (v := nI 1) hx hb d_Model_cost_41 (by decide) ?_
        refine lv_icmp_ne (tgt := 49) hx hb d_Model_cost_42 (by decide) (fun c42 => ?_) (fun c42 => ?_)
        · replace hR := (if_neg c42).symm.trans hR
          refine lv_aload_n hx hb d_Model_cost_49 rfl (lv_at hl 1 rfl) ?_
          refine va_get (D := (dC, dI)) (ci := 5) (v := .int (nI VM1)) (C := R_Model) (T := T_Model) (N := 30) hx hb hG in_Model hown hK hP 0 rfl rfl 1 (by decide) (hG _ m_615) (fun _ h9 => h9) rfl d_Model_cost_50 ?_
          refine lv_istore (lv' := [(4, .int (nI VM1)), (2, .long 0), (0, .ref (aM 0)), (1, .int x1)]) hx hb d_Model_cost_53 hl (by decide) rfl (fun ls hl => ?_)
          obtain ⟨k_55, hk_55, hR⟩ : ∃ k, f_Model_cost_x55 = k ∧ f_Model_cost_h55 VM1 VM4 VM2 LM12 k 13 0 VM1 = r0 := ⟨_, rfl, hR⟩
          have X_55 : ∀ (x2_55 : Int64) (x4_55 : Nat) (hi : x4_55 ≤ (VM1 + VM4)) (H : Heap) (locs : List Loc) (hP : va_P (dC, dI) vwCl (w_M cI cJ cZ aM 0 VM1 VM2 VM3 VM4 VM5 WM0 NM0 NM1 NM2 LM0 LM1 LM2 LM3 LM4 LM5 LM6 LM7 LM8 LM9 LM10 LM11 LM12 LM13 LM14 LM15 IM0 IM1 IM2 IM3) H) (hD : va_D A (w_M cI cJ cZ aM 0 VM1 VM2 VM3 VM4 VM5 WM0 NM0 NM1 NM2 LM0 LM1 LM2 LM3 LM4 LM5 LM6 LM7 LM8 LM9 LM10 LM11 LM12 LM13 LM14 LM15 IM0 IM1 IM2 IM3)) (hS : va_S A s.heap H locs) (ls : Array Slot) (hl : lv_has ls 6 [(0, .ref (aM 0)), (1, .int x1), (2, .long x2_55), (4, .int (nI x4_55))]) (hR : k_55 x2_55 x4_55 = r0), W p l e (headSpec u_Model_cost ({ frames := 1, cells := 0, slots := 0, locals := 25 })).room s m ([.ref (aM 0), .int x1]).toArray below meth c H locs 0 0 (hh_Zl below (dC, dI) vwCl [(cI, .int), (cJ, .long), (cZ, .boolean)] A r0.1 (w_M cI cJ cZ aM r0.2 VM1 VM2 VM3 VM4 VM5 WM0 NM0 NM1 NM2 LM0 LM1 LM2 LM3 LM4 LM5 LM6 LM7 LM8 LM9 LM10 LM11 LM12 LM13 LM14 LM15 IM0 IM1 IM2 IM3) ([.ref (aM 0), .int x1]).toArray s) (F0 m 109 ls []) := by
            intro x2_55 x4_55 hi H locs hP hD hS ls hl hR
            rw [← hk_55] at hR
            unfold f_Model_cost_x55 at hR
            refine lv_lload_n hx hb d_Model_cost_109 rfl (lv_at hl 2 rfl) ?_
            subst hR
            exact W.lret (v := x2_55) hx hb hr (fun t ht hW => ⟨⟨_, (), rfl, rfl, by rw [ht]; exact hP, va_K.moved hW.alike hK, hD⟩, hS.F ht⟩) hS.2.2 d_Model_cost_110
          have L_55 : ∀ (n : Nat) (x2_55 : Int64) (x4_55 : Nat) (hi : x4_55 ≤ (VM1 + VM4)) (hfu : (VM1 + VM4) - x4_55 < n) (H : Heap) (locs : List Loc) (hP : va_P (dC, dI) vwCl (w_M cI cJ cZ aM 0 VM1 VM2 VM3 VM4 VM5 WM0 NM0 NM1 NM2 LM0 LM1 LM2 LM3 LM4 LM5 LM6 LM7 LM8 LM9 LM10 LM11 LM12 LM13 LM14 LM15 IM0 IM1 IM2 IM3) H) (hD : va_D A (w_M cI cJ cZ aM 0 VM1 VM2 VM3 VM4 VM5 WM0 NM0 NM1 NM2 LM0 LM1 LM2 LM3 LM4 LM5 LM6 LM7 LM8 LM9 LM10 LM11 LM12 LM13 LM14 LM15 IM0 IM1 IM2 IM3)) (hS : va_S A s.heap H locs) (ls : Array Slot) (hl : lv_has ls 6 [(0, .ref (aM 0)), (1, .int x1), (2, .long x2_55), (4, .int (nI x4_55))]) (hR : f_Model_cost_h55 VM1 VM4 VM2 LM12 k_55 n x2_55 x4_55 = r0), W p l e (headSpec u_Model_cost ({ frames := 1, cells := 0, slots := 0, locals := 25 })).room s m ([.ref (aM 0), .int x1]).toArray below meth c H locs 0 0 (hh_Zl below (dC, dI) vwCl [(cI, .int), (cJ, .long), (cZ, .boolean)] A r0.1 (w_M cI cJ cZ aM r0.2 VM1 VM2 VM3 VM4 VM5 WM0 NM0 NM1 NM2 LM0 LM1 LM2 LM3 LM4 LM5 LM6 LM7 LM8 LM9 LM10 LM11 LM12 LM13 LM14 LM15 IM0 IM1 IM2 IM3) ([.ref (aM 0), .int x1]).toArray s) (F0 m 55 ls []) := by
            intro n
            induction n with
            | zero =>
              intro x2_55 x4_55 hi hfu H locs hP hD hS ls hl hR
              exact absurd hfu (Nat.not_lt_zero _)
            | succ n ih_55 =>
              intro x2_55 x4_55 hi hfu H locs hP hD hS ls hl hR
              rw [f_Model_cost_h55] at hR
              obtain ⟨rec_55, hrec_55, hR⟩ : ∃ r, r = _ ∧ f_Model_cost_h55B VM1 VM4 VM2 LM12 k_55 r x2_55 x4_55 = r0 := ⟨_, rfl, hR⟩
              unfold f_Model_cost_h55B at hR
              refine lv_iload hx hb d_Model_cost_55 (lv_at hl 3 rfl) ?_
              refine lv_aload_n hx hb d_Model_cost_57 rfl (lv_at hl 0 rfl) ?_
              refine va_get (D := (dC, dI)) (ci := 5) (v := .int (nI VM1)) (C := R_Model) (T := T_Model) (N := 30) hx hb hG in_Model hown hK hP 0 rfl rfl 1 (by decide) (hG _ m_615) (fun _ h9 => h9) rfl d_Model_cost_58 ?_
              refine lv_aload_n hx hb d_Model_cost_61 rfl (lv_at hl 0 rfl) ?_
              refine va_get (D := (dC, dI)) (ci := 5) (v := .int (nI VM4)) (C := R_Model) (T := T_Model) (N := 30) hx hb hG in_Model hown hK hP 0 rfl rfl 18 (by decide) (hG _ m_632) (fun _ h9 => h9) rfl d_Model_cost_62 ?_
              refine hw_iadd hx hb d_Model_cost_65 ?_
              refine hw_icmp_ge (tgt := 109) hx hb d_Model_cost_66 (by decide) (by omega) (by omega) (fun c66 => ?_) (fun c66 => ?_)
              · replace hR := (if_pos c66).symm.trans hR
                exact X_55 x2_55 x4_55 (by first | assumption | omega | exact hw_upb (by assumption) (by omega)) H locs hP hD hS ls (lv_sub hl [0, 1, 2, 3] rfl) hR
              · replace hR := (if_neg c66).symm.trans hR
                refine lv_iconst (v := nI 0) hx hb d_Model_cost_69 (by decide) ?_
                refine lv_istore (lv' := [(5, .int (nI 0)), (0, .ref (aM 0)), (1, .int x1), (2, .long x2_55), (4, .int (nI x4_55))]) hx hb d_Model_cost_70 hl (by decide) rfl (fun ls hl => ?_)
                obtain ⟨k_72, hk_72, hR⟩ : ∃ k, (f_Model_cost_x72 rec_55 x4_55) = k ∧ f_Model_cost_h72 VM2 LM12 x4_55 k 9 x2_55 0 = r0 := ⟨_, rfl, hR⟩
                have X_72 : ∀ (x2_72 : Int64) (x5_72 : Nat) (hi : x5_72 ≤ VM2) (H : Heap) (locs : List Loc) (hP : va_P (dC, dI) vwCl (w_M cI cJ cZ aM 0 VM1 VM2 VM3 VM4 VM5 WM0 NM0 NM1 NM2 LM0 LM1 LM2 LM3 LM4 LM5 LM6 LM7 LM8 LM9 LM10 LM11 LM12 LM13 LM14 LM15 IM0 IM1 IM2 IM3) H) (hD : va_D A (w_M cI cJ cZ aM 0 VM1 VM2 VM3 VM4 VM5 WM0 NM0 NM1 NM2 LM0 LM1 LM2 LM3 LM4 LM5 LM6 LM7 LM8 LM9 LM10 LM11 LM12 LM13 LM14 LM15 IM0 IM1 IM2 IM3)) (hS : va_S A s.heap H locs) (ls : Array Slot) (hl : lv_has ls 6 [(0, .ref (aM 0)), (1, .int x1), (2, .long x2_72), (4, .int (nI x4_55)), (5, .int (nI x5_72))]) (hR : k_72 x2_72 x5_72 = r0), W p l e (headSpec u_Model_cost ({ frames := 1, cells := 0, slots := 0, locals := 25 })).room s m ([.ref (aM 0), .int x1]).toArray below meth c H locs 0 0 (hh_Zl below (dC, dI) vwCl [(cI, .int), (cJ, .long), (cZ, .boolean)] A r0.1 (w_M cI cJ cZ aM r0.2 VM1 VM2 VM3 VM4 VM5 WM0 NM0 NM1 NM2 LM0 LM1 LM2 LM3 LM4 LM5 LM6 LM7 LM8 LM9 LM10 LM11 LM12 LM13 LM14 LM15 IM0 IM1 IM2 IM3) ([.ref (aM 0), .int x1]).toArray s) (F0 m 103 ls []) := by
                  intro x2_72 x5_72 hi H locs hP hD hS ls hl hR
                  rw [← hk_72] at hR
                  unfold f_Model_cost_x72 at hR
                  refine lv_iinc (v := nI (x4_55 + 1)) (lv' := [(4, .int (nI (x4_55 + 1))), (0, .ref (aM 0)), (1, .int x1), (2, .long x2_72), (5, .int (nI x5_72))]) hx hb d_Model_cost_103 hl (k := 3) rfl (hw_inc _ 1) (by decide) rfl (fun ls hl => ?_)
                  refine lv_goto (tgt := 55) hx hb d_Model_cost_106 (by decide) ?_
                  rw [hrec_55] at hR
                  exact ih_55 x2_72 (x4_55 + 1) (by first | assumption | omega | exact hw_upb (by assumption) (by omega)) (by omega) H locs hP hD hS ls (lv_sub hl [1, 2, 3, 0] rfl) hR
                have L_72 : ∀ (n : Nat) (x2_72 : Int64) (x5_72 : Nat) (hi : x5_72 ≤ VM2) (hfu : VM2 - x5_72 < n) (H : Heap) (locs : List Loc) (hP : va_P (dC, dI) vwCl (w_M cI cJ cZ aM 0 VM1 VM2 VM3 VM4 VM5 WM0 NM0 NM1 NM2 LM0 LM1 LM2 LM3 LM4 LM5 LM6 LM7 LM8 LM9 LM10 LM11 LM12 LM13 LM14 LM15 IM0 IM1 IM2 IM3) H) (hD : va_D A (w_M cI cJ cZ aM 0 VM1 VM2 VM3 VM4 VM5 WM0 NM0 NM1 NM2 LM0 LM1 LM2 LM3 LM4 LM5 LM6 LM7 LM8 LM9 LM10 LM11 LM12 LM13 LM14 LM15 IM0 IM1 IM2 IM3)) (hS : va_S A s.heap H locs) (ls : Array Slot) (hl : lv_has ls 6 [(0, .ref (aM 0)), (1, .int x1), (2, .long x2_72), (4, .int (nI x4_55)), (5, .int (nI x5_72))]) (hR : f_Model_cost_h72 VM2 LM12 x4_55 k_72 n x2_72 x5_72 = r0), W p l e (headSpec u_Model_cost ({ frames := 1, cells := 0, slots := 0, locals := 25 })).room s m ([.ref (aM 0), .int x1]).toArray below meth c H locs 0 0 (hh_Zl below (dC, dI) vwCl [(cI, .int), (cJ, .long), (cZ, .boolean)] A r0.1 (w_M cI cJ cZ aM r0.2 VM1 VM2 VM3 VM4 VM5 WM0 NM0 NM1 NM2 LM0 LM1 LM2 LM3 LM4 LM5 LM6 LM7 LM8 LM9 LM10 LM11 LM12 LM13 LM14 LM15 IM0 IM1 IM2 IM3) ([.ref (aM 0), .int x1]).toArray s) (F0 m 72 ls []) := by
                  intro n
                  induction n with
                  | zero =>
                    intro x2_72 x5_72 hi hfu H locs hP hD hS ls hl hR
                    exact absurd hfu (Nat.not_lt_zero _)
                  | succ n ih_72 =>
                    intro x2_72 x5_72 hi hfu H locs hP hD hS ls hl hR
                    rw [f_Model_cost_h72] at hR
                    obtain ⟨rec_72, hrec_72, hR⟩ : ∃ r, r = _ ∧ f_Model_cost_h72B VM2 LM12 x4_55 k_72 r x2_72 x5_72 = r0 := ⟨_, rfl, hR⟩
                    unfold f_Model_cost_h72B at hR
                    refine lv_iload hx hb d_Model_cost_72 (lv_at hl 4 rfl) ?_
                    refine lv_aload_n hx hb d_Model_cost_74 rfl (lv_at hl 0 rfl) ?_
                    refine va_get (D := (dC, dI)) (ci := 5) (v := .int (nI VM2)) (C := R_Model) (T := T_Model) (N := 30) hx hb hG in_Model hown hK hP 0 rfl rfl 6 (by decide) (hG _ m_620) (fun _ h9 => h9) rfl d_Model_cost_75 ?_
                    refine hw_icmp_ge (tgt := 103) hx hb d_Model_cost_78 (by decide) (by omega) (by omega) (fun c78 => ?_) (fun c78 => ?_)
                    · replace hR := (if_pos c78).symm.trans hR
                      exact X_72 x2_72 x5_72 (by first | assumption | omega | exact hw_upb (by assumption) (by omega)) H locs hP hD hS ls (lv_sub hl [0, 1, 2, 3, 4] rfl) hR
                    · replace hR := (if_neg c78).symm.trans hR
                      refine lv_lload_n hx hb d_Model_cost_81 rfl (lv_at hl 2 rfl) ?_
                      refine lv_aload_n hx hb d_Model_cost_82 rfl (lv_at hl 0 rfl) ?_
                      refine va_get (D := (dC, dI)) (ci := 5) (v := .ref (aM 18)) (C := R_Model) (T := T_Model) (N := 30) hx hb hG in_Model hown hK hP 0 rfl rfl 23 (by decide) (hG _ m_637) (fun _ h9 => h9) rfl d_Model_cost_83 ?_
                      refine lv_bipush (v := nI 8) hx hb d_Model_cost_86 (by decide) ?_
                      refine lv_iload hx hb d_Model_cost_88 (lv_at hl 3 rfl) ?_
                      refine hw_imul hx hb d_Model_cost_90 ?_
                      refine lv_iload hx hb d_Model_cost_91 (lv_at hl 4 rfl) ?_
                      refine hw_iadd hx hb d_Model_cost_93 ?_
                      refine hw_lald (f := LM12) hx hb hK hP 18 1 rfl rfl (by decide) (by omega) d_Model_cost_94 ?_
                      refine lv_ladd hx hb d_Model_cost_95 ?_
                      refine lv_lstore_n (lv' := [(2, .long (x2_72 + (LM12 ((8 * x4_55) + x5_72)))), (0, .ref (aM 0)), (1, .int x1), (4, .int (nI x4_55)), (5, .int (nI x5_72))]) hx hb d_Model_cost_96 rfl hl (by decide) rfl (fun ls hl => ?_)
                      refine lv_iinc (v := nI (x5_72 + 1)) (lv' := [(5, .int (nI (x5_72 + 1))), (2, .long (x2_72 + (LM12 ((8 * x4_55) + x5_72)))), (0, .ref (aM 0)), (1, .int x1), (4, .int (nI x4_55))]) hx hb d_Model_cost_97 hl (k := 4) rfl (hw_inc _ 1) (by decide) rfl (fun ls hl => ?_)
                      refine lv_goto (tgt := 72) hx hb d_Model_cost_100 (by decide) ?_
                      rw [hrec_72] at hR
                      exact ih_72 (x2_72 + (LM12 ((8 * x4_55) + x5_72))) (x5_72 + 1) (by first | assumption | omega | exact hw_upb (by assumption) (by omega)) (by omega) H locs hP hD hS ls (lv_sub hl [2, 3, 1, 4, 0] rfl) hR
                exact L_72 9 x2_55 0 (by first | assumption | omega | exact hw_upb (by assumption) (by omega)) (by omega) H locs hP hD hS ls (lv_sub hl [1, 2, 3, 4, 0] rfl) hR
          exact L_55 13 0 VM1 (by first | assumption | omega | exact hw_upb (by assumption) (by omega)) (by omega) H locs hP hD hS ls (lv_sub hl [2, 3, 1, 0] rfl) hR
        · replace hR := (if_pos c42).symm.trans hR
          refine lv_iconst (v := nI 0) hx hb d_Model_cost_45 (by decide) ?_
          refine lv_goto (tgt := 53) hx hb d_Model_cost_46 (by decide) ?_
          refine lv_istore (lv' := [(4, .int (nI 0)), (2, .long 0), (0, .ref (aM 0)), (1, .int x1)]) hx hb d_Model_cost_53 hl (by decide) rfl (fun ls hl => ?_)
          obtain ⟨k_55, hk_55, hR⟩ : ∃ k, f_Model_cost_x55 = k ∧ f_Model_cost_h55 VM1 VM4 VM2 LM12 k 13 0 0 = r0 := ⟨_, rfl, hR⟩
          have X_55 : ∀ (x2_55 : Int64) (x4_55 : Nat) (hi : x4_55 ≤ (VM1 + VM4)) (H : Heap) (locs : List Loc) (hP : va_P (dC, dI) vwCl (w_M cI cJ cZ aM 0 VM1 VM2 VM3 VM4 VM5 WM0 NM0 NM1 NM2 LM0 LM1 LM2 LM3 LM4 LM5 LM6 LM7 LM8 LM9 LM10 LM11 LM12 LM13 LM14 LM15 IM0 IM1 IM2 IM3) H) (hD : va_D A (w_M cI cJ cZ aM 0 VM1 VM2 VM3 VM4 VM5 WM0 NM0 NM1 NM2 LM0 LM1 LM2 LM3 LM4 LM5 LM6 LM7 LM8 LM9 LM10 LM11 LM12 LM13 LM14 LM15 IM0 IM1 IM2 IM3)) (hS : va_S A s.heap H locs) (ls : Array Slot) (hl : lv_has ls 6 [(0, .ref (aM 0)), (1, .int x1), (2, .long x2_55), (4, .int (nI x4_55))]) (hR : k_55 x2_55 x4_55 = r0), W p l e (headSpec u_Model_cost ({ frames := 1, cells := 0, slots := 0, locals := 25 })).room s m ([.ref (aM 0), .int x1]).toArray below meth c H locs 0 0 (hh_Zl below (dC, dI) vwCl [(cI, .int), (cJ, .long), (cZ, .boolean)] A r0.1 (w_M cI cJ cZ aM r0.2 VM1 VM2 VM3 VM4 VM5 WM0 NM0 NM1 NM2 LM0 LM1 LM2 LM3 LM4 LM5 LM6 LM7 LM8 LM9 LM10 LM11 LM12 LM13 LM14 LM15 IM0 IM1 IM2 IM3) ([.ref (aM 0), .int x1]).toArray s) (F0 m 109 ls []) := by
            intro x2_55 x4_55 hi H locs hP hD hS ls hl hR
            rw [← hk_55] at hR
            unfold f_Model_cost_x55 at hR
            refine lv_lload_n hx hb d_Model_cost_109 rfl (lv_at hl 2 rfl) ?_
            subst hR
            exact W.lret (v := x2_55) hx hb hr (fun t ht hW => ⟨⟨_, (), rfl, rfl, by rw [ht]; exact hP, va_K.moved hW.alike hK, hD⟩, hS.F ht⟩) hS.2.2 d_Model_cost_110
          have L_55 : ∀ (n : Nat) (x2_55 : Int64) (x4_55 : Nat) (hi : x4_55 ≤ (VM1 + VM4)) (hfu : (VM1 + VM4) - x4_55 < n) (H : Heap) (locs : List Loc) (hP : va_P (dC, dI) vwCl (w_M cI cJ cZ aM 0 VM1 VM2 VM3 VM4 VM5 WM0 NM0 NM1 NM2 LM0 LM1 LM2 LM3 LM4 LM5 LM6 LM7 LM8 LM9 LM10 LM11 LM12 LM13 LM14 LM15 IM0 IM1 IM2 IM3) H) (hD : va_D A (w_M cI cJ cZ aM 0 VM1 VM2 VM3 VM4 VM5 WM0 NM0 NM1 NM2 LM0 LM1 LM2 LM3 LM4 LM5 LM6 LM7 LM8 LM9 LM10 LM11 LM12 LM13 LM14 LM15 IM0 IM1 IM2 IM3)) (hS : va_S A s.heap H locs) (ls : Array Slot) (hl : lv_has ls 6 [(0, .ref (aM 0)), (1, .int x1), (2, .long x2_55), (4, .int (nI x4_55))]) (hR : f_Model_cost_h55 VM1 VM4 VM2 LM12 k_55 n x2_55 x4_55 = r0), W p l e (headSpec u_Model_cost ({ frames := 1, cells := 0, slots := 0, locals := 25 })).room s m ([.ref (aM 0), .int x1]).toArray below meth c H locs 0 0 (hh_Zl below (dC, dI) vwCl [(cI, .int), (cJ, .long), (cZ, .boolean)] A r0.1 (w_M cI cJ cZ aM r0.2 VM1 VM2 VM3 VM4 VM5 WM0 NM0 NM1 NM2 LM0 LM1 LM2 LM3 LM4 LM5 LM6 LM7 LM8 LM9 LM10 LM11 LM12 LM13 LM14 LM15 IM0 IM1 IM2 IM3) ([.ref (aM 0), .int x1]).toArray s) (F0 m 55 ls []) := by
            intro n
            induction n with
            | zero =>
              intro x2_55 x4_55 hi hfu H locs hP hD hS ls hl hR
              exact absurd hfu (Nat.not_lt_zero _)
            | succ n ih_55 =>
              intro x2_55 x4_55 hi hfu H locs hP hD hS ls hl hR
              rw [f_Model_cost_h55] at hR
              obtain ⟨rec_55, hrec_55, hR⟩ : ∃ r, r = _ ∧ f_Model_cost_h55B VM1 VM4 VM2 LM12 k_55 r x2_55 x4_55 = r0 := ⟨_, rfl, hR⟩
              unfold f_Model_cost_h55B at hR
              refine lv_iload hx hb d_Model_cost_55 (lv_at hl 3 rfl) ?_
              refine lv_aload_n hx hb d_Model_cost_57 rfl (lv_at hl 0 rfl) ?_
              refine va_get (D := (dC, dI)) (ci := 5) (v := .int (nI VM1)) (C := R_Model) (T := T_Model) (N := 30) hx hb hG in_Model hown hK hP 0 rfl rfl 1 (by decide) (hG _ m_615) (fun _ h9 => h9) rfl d_Model_cost_58 ?_
              refine lv_aload_n hx hb d_Model_cost_61 rfl (lv_at hl 0 rfl) ?_
              refine va_get (D := (dC, dI)) (ci := 5) (v := .int (nI VM4)) (C := R_Model) (T := T_Model) (N := 30) hx hb hG in_Model hown hK hP 0 rfl rfl 18 (by decide) (hG _ m_632) (fun _ h9 => h9) rfl d_Model_cost_62 ?_
              refine hw_iadd hx hb d_Model_cost_65 ?_
              refine hw_icmp_ge (tgt := 109) hx hb d_Model_cost_66 (by decide) (by omega) (by omega) (fun c66 => ?_) (fun c66 => ?_)
              · replace hR := (if_pos c66).symm.trans hR
                exact X_55 x2_55 x4_55 (by first | assumption | omega | exact hw_upb (by assumption) (by omega)) H locs hP hD hS ls (lv_sub hl [0, 1, 2, 3] rfl) hR
              · replace hR := (if_neg c66).symm.trans hR
                refine lv_iconst (v := nI 0) hx hb d_Model_cost_69 (by decide) ?_
                refine lv_istore (lv' := [(5, .int (nI 0)), (0, .ref (aM 0)), (1, .int x1), (2, .long x2_55), (4, .int (nI x4_55))]) hx hb d_Model_cost_70 hl (by decide) rfl (fun ls hl => ?_)
                obtain ⟨k_72, hk_72, hR⟩ : ∃ k, (f_Model_cost_x72 rec_55 x4_55) = k ∧ f_Model_cost_h72 VM2 LM12 x4_55 k 9 x2_55 0 = r0 := ⟨_, rfl, hR⟩
                have X_72 : ∀ (x2_72 : Int64) (x5_72 : Nat) (hi : x5_72 ≤ VM2) (H : Heap) (locs : List Loc) (hP : va_P (dC, dI) vwCl (w_M cI cJ cZ aM 0 VM1 VM2 VM3 VM4 VM5 WM0 NM0 NM1 NM2 LM0 LM1 LM2 LM3 LM4 LM5 LM6 LM7 LM8 LM9 LM10 LM11 LM12 LM13 LM14 LM15 IM0 IM1 IM2 IM3) H) (hD : va_D A (w_M cI cJ cZ aM 0 VM1 VM2 VM3 VM4 VM5 WM0 NM0 NM1 NM2 LM0 LM1 LM2 LM3 LM4 LM5 LM6 LM7 LM8 LM9 LM10 LM11 LM12 LM13 LM14 LM15 IM0 IM1 IM2 IM3)) (hS : va_S A s.heap H locs) (ls : Array Slot) (hl : lv_has ls 6 [(0, .ref (aM 0)), (1, .int x1), (2, .long x2_72), (4, .int (nI x4_55)), (5, .int (nI x5_72))]) (hR : k_72 x2_72 x5_72 = r0), W p l e (headSpec u_Model_cost ({ frames := 1, cells := 0, slots := 0, locals := 25 })).room s m ([.ref (aM 0), .int x1]).toArray below meth c H locs 0 0 (hh_Zl below (dC, dI) vwCl [(cI, .int), (cJ, .long), (cZ, .boolean)] A r0.1 (w_M cI cJ cZ aM r0.2 VM1 VM2 VM3 VM4 VM5 WM0 NM0 NM1 NM2 LM0 LM1 LM2 LM3 LM4 LM5 LM6 LM7 LM8 LM9 LM10 LM11 LM12 LM13 LM14 LM15 IM0 IM1 IM2 IM3) ([.ref (aM 0), .int x1]).toArray s) (F0 m 103 ls []) := by
                  intro x2_72 x5_72 hi H locs hP hD hS ls hl hR
                  rw [← hk_72] at hR
                  unfold f_Model_cost_x72 at hR
                  refine lv_iinc (v := nI (x4_55 + 1)) (lv' := [(4, .int (nI (x4_55 + 1))), (0, .ref (aM 0)), (1, .int x1), (2, .long x2_72), (5, .int (nI x5_72))]) hx hb d_Model_cost_103 hl (k := 3) rfl (hw_inc _ 1) (by decide) rfl (fun ls hl => ?_)
                  refine lv_goto (tgt := 55) hx hb d_Model_cost_106 (by decide) ?_
                  rw [hrec_55] at hR
                  exact ih_55 x2_72 (x4_55 + 1) (by first | assumption | omega | exact hw_upb (by assumption) (by omega)) (by omega) H locs hP hD hS ls (lv_sub hl [1, 2, 3, 0] rfl) hR
                have L_72 : ∀ (n : Nat) (x2_72 : Int64) (x5_72 : Nat) (hi : x5_72 ≤ VM2) (hfu : VM2 - x5_72 < n) (H : Heap) (locs : List Loc) (hP : va_P (dC, dI) vwCl (w_M cI cJ cZ aM 0 VM1 VM2 VM3 VM4 VM5 WM0 NM0 NM1 NM2 LM0 LM1 LM2 LM3 LM4 LM5 LM6 LM7 LM8 LM9 LM10 LM11 LM12 LM13 LM14 LM15 IM0 IM1 IM2 IM3) H) (hD : va_D A (w_M cI cJ cZ aM 0 VM1 VM2 VM3 VM4 VM5 WM0 NM0 NM1 NM2 LM0 LM1 LM2 LM3 LM4 LM5 LM6 LM7 LM8 LM9 LM10 LM11 LM12 LM13 LM14 LM15 IM0 IM1 IM2 IM3)) (hS : va_S A s.heap H locs) (ls : Array Slot) (hl : lv_has ls 6 [(0, .ref (aM 0)), (1, .int x1), (2, .long x2_72), (4, .int (nI x4_55)), (5, .int (nI x5_72))]) (hR : f_Model_cost_h72 VM2 LM12 x4_55 k_72 n x2_72 x5_72 = r0), W p l e (headSpec u_Model_cost ({ frames := 1, cells := 0, slots := 0, locals := 25 })).room s m ([.ref (aM 0), .int x1]).toArray below meth c H locs 0 0 (hh_Zl below (dC, dI) vwCl [(cI, .int), (cJ, .long), (cZ, .boolean)] A r0.1 (w_M cI cJ cZ aM r0.2 VM1 VM2 VM3 VM4 VM5 WM0 NM0 NM1 NM2 LM0 LM1 LM2 LM3 LM4 LM5 LM6 LM7 LM8 LM9 LM10 LM11 LM12 LM13 LM14 LM15 IM0 IM1 IM2 IM3) ([.ref (aM 0), .int x1]).toArray s) (F0 m 72 ls []) := by
                  intro n
                  induction n with
                  | zero =>
                    intro x2_72 x5_72 hi hfu H locs hP hD hS ls hl hR
                    exact absurd hfu (Nat.not_lt_zero _)
                  | succ n ih_72 =>
                    intro x2_72 x5_72 hi hfu H locs hP hD hS ls hl hR
                    rw [f_Model_cost_h72] at hR
                    obtain ⟨rec_72, hrec_72, hR⟩ : ∃ r, r = _ ∧ f_Model_cost_h72B VM2 LM12 x4_55 k_72 r x2_72 x5_72 = r0 := ⟨_, rfl, hR⟩
                    unfold f_Model_cost_h72B at hR
                    refine lv_iload hx hb d_Model_cost_72 (lv_at hl 4 rfl) ?_
                    refine lv_aload_n hx hb d_Model_cost_74 rfl (lv_at hl 0 rfl) ?_
                    refine va_get (D := (dC, dI)) (ci := 5) (v := .int (nI VM2)) (C := R_Model) (T := T_Model) (N := 30) hx hb hG in_Model hown hK hP 0 rfl rfl 6 (by decide) (hG _ m_620) (fun _ h9 => h9) rfl d_Model_cost_75 ?_
                    refine hw_icmp_ge (tgt := 103) hx hb d_Model_cost_78 (by decide) (by omega) (by omega) (fun c78 => ?_) (fun c78 => ?_)
                    · replace hR := (if_pos c78).symm.trans hR
                      exact X_72 x2_72 x5_72 (by first | assumption | omega | exact hw_upb (by assumption) (by omega)) H locs hP hD hS ls (lv_sub hl [0, 1, 2, 3, 4] rfl) hR
                    · replace hR := (if_neg c78).symm.trans hR
                      refine lv_lload_n hx hb d_Model_cost_81 rfl (lv_at hl 2 rfl) ?_
                      refine lv_aload_n hx hb d_Model_cost_82 rfl (lv_at hl 0 rfl) ?_
                      refine va_get (D := (dC, dI)) (ci := 5) (v := .ref (aM 18)) (C := R_Model) (T := T_Model) (N := 30) hx hb hG in_Model hown hK hP 0 rfl rfl 23 (by decide) (hG _ m_637) (fun _ h9 => h9) rfl d_Model_cost_83 ?_
                      refine lv_bipush (v := nI 8) hx hb d_Model_cost_86 (by decide) ?_
                      refine lv_iload hx hb d_Model_cost_88 (lv_at hl 3 rfl) ?_
                      refine hw_imul hx hb d_Model_cost_90 ?_
                      refine lv_iload hx hb d_Model_cost_91 (lv_at hl 4 rfl) ?_
                      refine hw_iadd hx hb d_Model_cost_93 ?_
                      refine hw_lald (f := LM12) hx hb hK hP 18 1 rfl rfl (by decide) (by omega) d_Model_cost_94 ?_
                      refine lv_ladd hx hb d_Model_cost_95 ?_
                      refine lv_lstore_n (lv' := [(2, .long (x2_72 + (LM12 ((8 * x4_55) + x5_72)))), (0, .ref (aM 0)), (1, .int x1), (4, .int (nI x4_55)), (5, .int (nI x5_72))]) hx hb d_Model_cost_96 rfl hl (by decide) rfl (fun ls hl => ?_)
                      refine lv_iinc (v := nI (x5_72 + 1)) (lv' := [(5, .int (nI (x5_72 + 1))), (2, .long (x2_72 + (LM12 ((8 * x4_55) + x5_72)))), (0, .ref (aM 0)), (1, .int x1), (4, .int (nI x4_55))]) hx hb d_Model_cost_97 hl (k := 4) rfl (hw_inc _ 1) (by decide) rfl (fun ls hl => ?_)
                      refine lv_goto (tgt := 72) hx hb d_Model_cost_100 (by decide) ?_
                      rw [hrec_72] at hR
                      exact ih_72 (x2_72 + (LM12 ((8 * x4_55) + x5_72))) (x5_72 + 1) (by first | assumption | omega | exact hw_upb (by assumption) (by omega)) (by omega) H locs hP hD hS ls (lv_sub hl [2, 3, 1, 4, 0] rfl) hR
                exact L_72 9 x2_55 0 (by first | assumption | omega | exact hw_upb (by assumption) (by omega)) (by omega) H locs hP hD hS ls (lv_sub hl [1, 2, 3, 4, 0] rfl) hR
          exact L_55 13 0 0 (by first | assumption | omega | exact hw_upb (by assumption) (by omega)) (by omega) H locs hP hD hS ls (lv_sub hl [2, 3, 1, 0] rfl) hR
      · replace hR := (if_pos c30).symm.trans hR
        refine lv_aload_n hx hb d_Model_cost_33 rfl (lv_at hl 0 rfl) ?_
        refine va_get (D := (dC, dI)) (ci := 5) (v := .long WM0) (C := R_Model) (T := T_Model) (N := 30) hx hb hG in_Model hown hK hP 0 rfl rfl 24 (by decide) (hG _ m_638) (fun _ h9 => h9) rfl d_Model_cost_34 ?_
        subst hR
        exact W.lret (v := WM0) hx hb hr (fun t ht hW => ⟨⟨_, (), rfl, rfl, by rw [ht]; exact hP, va_K.moved hW.alike hK, hD⟩, hS.F ht⟩) hS.2.2 d_Model_cost_37
    · replace hR := (if_pos c22).symm.trans hR
      refine lv_ldc2 (v := (-1)) hx hb hown (hG _ m_806) d_Model_cost_25 ?_
      subst hR
      exact W.lret (v := (-1)) hx hb hr (fun t ht hW => ⟨⟨_, (), rfl, rfl, by rw [ht]; exact hP, va_K.moved hW.alike hK, hD⟩, hS.F ht⟩) hS.2.2 d_Model_cost_28
def f_Model_clash_h9B (VM2 : Nat) (VM5 : Nat) (IM2 : Nat → Int32) (x1 : Int32) (k_9 : (Nat) → (Nat) → Int32 × (Nat)) (rec_9 : (Nat) → (Nat) → Int32 × (Nat)) (x2_9 : Nat) (x3_9 : Nat) : Int32 × (Nat) :=
  if VM2 ≤ x3_9 then (k_9 x2_9 x3_9) else (if VM5 = 2 then (if (IM2 x3_9) = 0 then (rec_9 x2_9 (x3_9 + 1)) else (if (nI x2_9) = x1 then (nI x3_9, 0) else (rec_9 (x2_9 + 1) (x3_9 + 1)))) else (k_9 x2_9 x3_9))
def f_Model_clash_h9 (VM2 : Nat) (VM5 : Nat) (IM2 : Nat → Int32) (x1 : Int32) (k_9 : (Nat) → (Nat) → Int32 × (Nat)) : Nat → (Nat) → (Nat) → Int32 × (Nat)
  | 0, x2_9, x3_9 => k_9 x2_9 x3_9
  | n + 1, x2_9, x3_9 => f_Model_clash_h9B VM2 VM5 IM2 x1 k_9 (fun x2_9 x3_9 => f_Model_clash_h9 VM2 VM5 IM2 x1 k_9 n x2_9 x3_9) x2_9 x3_9
def f_Model_clash_x9  (x2_9 : Nat) (x3_9 : Nat) : Int32 × (Nat) :=
  ((-1), 0)
def f_Model_clash (VM2 : Nat) (VM5 : Nat) (IM2 : Nat → Int32) (x1 : Int32) : Int32 × (Nat) :=
  f_Model_clash_h9 VM2 VM5 IM2 x1 f_Model_clash_x9 9 0 0
set_option maxHeartbeats 4000000 in
set_option maxRecDepth 100000 in
theorem c_Model_clash (l : Launch) (dC : Nat → ClassId) (dI : Nat → Nat → Nat) (cI cJ cZ : ClassId) (sz : Nat) (aM : Nat → Nat) (VM0 : Nat) (VM1 : Nat) (VM2 : Nat) (VM3 : Nat) (VM4 : Nat) (VM5 : Nat) (WM0 : Int64) (NM0 : Nat → Nat) (NM1 : Nat → Nat) (NM2 : Nat → Nat) (LM0 : Nat → Int64) (LM1 : Nat → Int64) (LM2 : Nat → Int64) (LM3 : Nat → Int64) (LM4 : Nat → Int64) (LM5 : Nat → Int64) (LM6 : Nat → Int64) (LM7 : Nat → Int64) (LM8 : Nat → Int64) (LM9 : Nat → Int64) (LM10 : Nat → Int64) (LM11 : Nat → Int64) (LM12 : Nat → Int64) (LM13 : Nat → Int64) (LM14 : Nat → Int64) (LM15 : Nat → Int64) (IM0 : Nat → Int32) (IM1 : Nat → Int32) (IM2 : Nat → Int32) (IM3 : Nat → Int32) (x1 : Int32) (m1 : VM1 ≤ 8) (m2 : VM2 ≤ 8) (m3 : VM3 ≤ 6) (m4 : VM4 ≤ 4) (mk4 : ∀ i, NM0 i < 4) (mcw : ∀ i, NM1 i < 12) (mfw : ∀ i, NM2 i < 12) (msb : ∀ i, i < 4 → ¬ LM5 i = 0) (m5 : VM5 ≤ 2) : hh_Ci l y_Model_clash u_Model_clash ({ frames := 0, cells := 0, slots := 0, locals := 0 }) (dC, dI) vwCl [(cI, .int), (cJ, .long), (cZ, .boolean)] (w_M cI cJ cZ aM VM0 VM1 VM2 VM3 VM4 VM5 WM0 NM0 NM1 NM2 LM0 LM1 LM2 LM3 LM4 LM5 LM6 LM7 LM8 LM9 LM10 LM11 LM12 LM13 LM14 LM15 IM0 IM1 IM2 IM3) sz [.ref (aM 0), .int x1] ((f_Model_clash VM2 VM5 IM2 x1).1) (w_M cI cJ cZ aM ((f_Model_clash VM2 VM5 IM2 x1).2) VM1 VM2 VM3 VM4 VM5 WM0 NM0 NM1 NM2 LM0 LM1 LM2 LM3 LM4 LM5 LM6 LM7 LM8 LM9 LM10 LM11 LM12 LM13 LM14 LM15 IM0 IM1 IM2 IM3) 0 0 := by
  unfold hh_Ci
  refine Met.ofW (cc := b_Model_clash) (maxL := 4) (ret := (some .int)) (by decide) rfl ?_
  intro p e s m args below meth c s₁ B hml hv
  obtain ⟨rfl, hsz, hP, hK, hD0⟩ := hv
  have hx := B.exec
  have hb := B.bytes
  have hr := B.returns
  have hts := atoms_spec (ws := u_Model_clash) B.pre
  have hG : ∀ w ∈ wG, w.before ([.ref (aM 0), .int x1]).toArray s = true := fun w h => hts w (List.mem_cons_of_mem _ h)
  have hown : s.vm.findClass R_Model = some m.cls := findClass_of_methodNamed B.named
  have hlocks := B.notSynchronized
  subst hsz
  have hD := hD0.self (sz := s.heap.size)
  generalize hAe : va_A (w_M cI cJ cZ aM VM0 VM1 VM2 VM3 VM4 VM5 WM0 NM0 NM1 NM2 LM0 LM1 LM2 LM3 LM4 LM5 LM6 LM7 LM8 LM9 LM10 LM11 LM12 LM13 LM14 LM15 IM0 IM1 IM2 IM3) s.heap.size = A at hD ⊢
  have hA : ∀ q : Nat, s.heap.size ≤ q → A q := fun q h => by rw [← hAe]; exact Or.inr h
  have hS : va_S A s.heap s.heap [] := va_S.rf
  have hl := lv_entry ([.ref (aM 0), .int x1]) (n := 4) (Nat.le_of_ble_eq_true rfl)
  rw [lg_entry_eq]
  generalize (lg_sl ([.ref (aM 0), .int x1]) ++ List.replicate (4 - (lg_sl ([.ref (aM 0), .int x1])).length) Slot.unset).toArray = ls at hl ⊢
  have hl : lv_has ls 4 [(0, .ref (aM 0)), (1, .int x1)] := hl
  generalize hR : f_Model_clash VM2 VM5 IM2 x1 = r0
  obtain ⟨H, locs, hHe, hle⟩ : ∃ (H : Heap) (locs : List Loc), s.heap = H ∧ [] = locs := ⟨_, _, rfl, rfl⟩
  have hP : va_P (dC, dI) vwCl (w_M cI cJ cZ aM VM0 VM1 VM2 VM3 VM4 VM5 WM0 NM0 NM1 NM2 LM0 LM1 LM2 LM3 LM4 LM5 LM6 LM7 LM8 LM9 LM10 LM11 LM12 LM13 LM14 LM15 IM0 IM1 IM2 IM3) H := by rw [← hHe]; exact hP
  have hS : va_S A s.heap H locs := by rw [← hHe, ← hle]; exact hS
  refine hw_start hHe hle ?_
  unfold f_Model_clash at hR
  refine lv_aload_n hx hb d_Model_clash_0 rfl (lv_at hl 0 rfl) ?_
  refine lv_iconst (v := nI 0) hx hb d_Model_clash_1 (by decide) ?_
  refine va_put (D := (dC, dI)) (ci := 5) (v := .int (nI 0)) (ty := .int) (C := R_Model) (T := T_Model) (N := 30) hx hb hG in_Model ty_Model tok_Model nok_Model hown hK hP hD hS 0 rfl rfl 0 (by decide) (hG _ m_614) (fun _ h9 => h9) rfl (by decide +kernel) rfl rfl (Nat.le_of_ble_eq_true rfl) d_Model_clash_2 (fun H locs hP hD hS => ?_)
  have hP : va_P (dC, dI) vwCl (w_M cI cJ cZ aM 0 VM1 VM2 VM3 VM4 VM5 WM0 NM0 NM1 NM2 LM0 LM1 LM2 LM3 LM4 LM5 LM6 LM7 LM8 LM9 LM10 LM11 LM12 LM13 LM14 LM15 IM0 IM1 IM2 IM3) H := hP
  have hD : va_D A (w_M cI cJ cZ aM 0 VM1 VM2 VM3 VM4 VM5 WM0 NM0 NM1 NM2 LM0 LM1 LM2 LM3 LM4 LM5 LM6 LM7 LM8 LM9 LM10 LM11 LM12 LM13 LM14 LM15 IM0 IM1 IM2 IM3) := hD
  refine lv_iconst (v := nI 0) hx hb d_Model_clash_5 (by decide) ?_
  refine lv_istore_n (lv' := [(2, .int (nI 0)), (0, .ref (aM 0)), (1, .int x1)]) hx hb d_Model_clash_6 rfl hl (by decide) rfl (fun ls hl => ?_)
  refine lv_iconst (v := nI 0) hx hb d_Model_clash_7 (by decide) ?_
  refine lv_istore_n (lv' := [(3, .int (nI 0)), (2, .int (nI 0)), (0, .ref (aM 0)), (1, .int x1)]) hx hb d_Model_clash_8 rfl hl (by decide) rfl (fun ls hl => ?_)
  obtain ⟨k_9, hk_9, hR⟩ : ∃ k, f_Model_clash_x9 = k ∧ f_Model_clash_h9 VM2 VM5 IM2 x1 k 9 0 0 = r0 := ⟨_, rfl, hR⟩
  have X_9 : ∀ (x2_9 : Nat) (x3_9 : Nat) (hi : x3_9 ≤ VM2) (H : Heap) (locs : List Loc) (hP : va_P (dC, dI) vwCl (w_M cI cJ cZ aM 0 VM1 VM2 VM3 VM4 VM5 WM0 NM0 NM1 NM2 LM0 LM1 LM2 LM3 LM4 LM5 LM6 LM7 LM8 LM9 LM10 LM11 LM12 LM13 LM14 LM15 IM0 IM1 IM2 IM3) H) (hD : va_D A (w_M cI cJ cZ aM 0 VM1 VM2 VM3 VM4 VM5 WM0 NM0 NM1 NM2 LM0 LM1 LM2 LM3 LM4 LM5 LM6 LM7 LM8 LM9 LM10 LM11 LM12 LM13 LM14 LM15 IM0 IM1 IM2 IM3)) (hS : va_S A s.heap H locs) (ls : Array Slot) (hl : lv_has ls 4 [(0, .ref (aM 0)), (1, .int x1), (2, .int (nI x2_9)), (3, .int (nI x3_9))]) (hR : k_9 x2_9 x3_9 = r0), W p l e (headSpec u_Model_clash ({ frames := 0, cells := 0, slots := 0, locals := 0 })).room s m ([.ref (aM 0), .int x1]).toArray below meth c H locs 0 0 (hh_Zi below (dC, dI) vwCl [(cI, .int), (cJ, .long), (cZ, .boolean)] A r0.1 (w_M cI cJ cZ aM r0.2 VM1 VM2 VM3 VM4 VM5 WM0 NM0 NM1 NM2 LM0 LM1 LM2 LM3 LM4 LM5 LM6 LM7 LM8 LM9 LM10 LM11 LM12 LM13 LM14 LM15 IM0 IM1 IM2 IM3) ([.ref (aM 0), .int x1]).toArray s) (F0 m 50 ls []) := by
    intro x2_9 x3_9 hi H locs hP hD hS ls hl hR
    rw [← hk_9] at hR
    unfold f_Model_clash_x9 at hR
    refine lv_iconst (v := (-1)) hx hb d_Model_clash_50 (by decide) ?_
    subst hR
    exact W.iret (v := (-1)) hx hb hr (fun t ht hW => ⟨⟨_, (), rfl, rfl, by rw [ht]; exact hP, va_K.moved hW.alike hK, hD⟩, hS.F ht⟩) hS.2.2 d_Model_clash_51
  have L_9 : ∀ (n : Nat) (x2_9 : Nat) (x3_9 : Nat) (hi : x3_9 ≤ VM2) (hfu : VM2 - x3_9 < n) (H : Heap) (locs : List Loc) (hP : va_P (dC, dI) vwCl (w_M cI cJ cZ aM 0 VM1 VM2 VM3 VM4 VM5 WM0 NM0 NM1 NM2 LM0 LM1 LM2 LM3 LM4 LM5 LM6 LM7 LM8 LM9 LM10 LM11 LM12 LM13 LM14 LM15 IM0 IM1 IM2 IM3) H) (hD : va_D A (w_M cI cJ cZ aM 0 VM1 VM2 VM3 VM4 VM5 WM0 NM0 NM1 NM2 LM0 LM1 LM2 LM3 LM4 LM5 LM6 LM7 LM8 LM9 LM10 LM11 LM12 LM13 LM14 LM15 IM0 IM1 IM2 IM3)) (hS : va_S A s.heap H locs) (ls : Array Slot) (hl : lv_has ls 4 [(0, .ref (aM 0)), (1, .int x1), (2, .int (nI x2_9)), (3, .int (nI x3_9))]) (hR : f_Model_clash_h9 VM2 VM5 IM2 x1 k_9 n x2_9 x3_9 = r0), W p l e (headSpec u_Model_clash ({ frames := 0, cells := 0, slots := 0, locals := 0 })).room s m ([.ref (aM 0), .int x1]).toArray below meth c H locs 0 0 (hh_Zi below (dC, dI) vwCl [(cI, .int), (cJ, .long), (cZ, .boolean)] A r0.1 (w_M cI cJ cZ aM r0.2 VM1 VM2 VM3 VM4 VM5 WM0 NM0 NM1 NM2 LM0 LM1 LM2 LM3 LM4 LM5 LM6 LM7 LM8 LM9 LM10 LM11 LM12 LM13 LM14 LM15 IM0 IM1 IM2 IM3) ([.ref (aM 0), .int x1]).toArray s) (F0 m 9 ls []) := by
    intro n
    induction n with
    | zero =>
      intro x2_9 x3_9 hi hfu H locs hP hD hS ls hl hR
      exact absurd hfu (Nat.not_lt_zero _)
    | succ n ih_9 =>
      intro x2_9 x3_9 hi hfu H locs hP hD hS ls hl hR
      rw [f_Model_clash_h9] at hR
      obtain ⟨rec_9, hrec_9, hR⟩ : ∃ r, r = _ ∧ f_Model_clash_h9B VM2 VM5 IM2 x1 k_9 r x2_9 x3_9 = r0 := ⟨_, rfl, hR⟩
      unfold f_Model_clash_h9B at hR
      refine lv_iload_n hx hb d_Model_clash_9 rfl (lv_at hl 3 rfl) ?_
      refine lv_aload_n hx hb d_Model_clash_10 rfl (lv_at hl 0 rfl) ?_
      refine va_get (D := (dC, dI)) (ci := 5) (v := .int (nI VM2)) (C := R_Model) (T := T_Model) (N := 30) hx hb hG in_Model hown hK hP 0 rfl rfl 6 (by decide) (hG _ m_620) (fun _ h9 => h9) rfl d_Model_clash_11 ?_
      refine hw_icmp_ge (tgt := 50) hx hb d_Model_clash_14 (by decide) (by omega) (by omega) (fun c14 => ?_) (fun c14 => ?_)
      · replace hR := (if_pos c14).symm.trans hR
        exact X_9 x2_9 x3_9 (by first | assumption | omega | exact hw_upb (by assumption) (by omega)) H locs hP hD hS ls (lv_sub hl [0, 1, 2, 3] rfl) hR
      · replace hR := (if_neg c14).symm.trans hR
        refine lv_aload_n hx hb d_Model_clash_17 rfl (lv_at hl 0 rfl) ?_
        refine va_get (D := (dC, dI)) (ci := 5) (v := .int (nI VM5)) (C := R_Model) (T := T_Model) (N := 30) hx hb hG in_Model hown hK hP 0 rfl rfl 22 (by decide) (hG _ m_636) (fun _ h9 => h9) rfl d_Model_clash_18 ?_
        refine lv_iconst (v := nI 2) hx hb d_Model_clash_21 (by decide) ?_
        refine hw_icmp_ne (tgt := 50) hx hb d_Model_clash_22 (by decide) (by omega) (by omega) (fun c22 => ?_) (fun c22 => ?_)
        · replace hR := (if_neg c22).symm.trans hR
          exact X_9 x2_9 x3_9 (by first | assumption | omega | exact hw_upb (by assumption) (by omega)) H locs hP hD hS ls (lv_sub hl [0, 1, 2, 3] rfl) hR
        · replace hR := (if_pos c22).symm.trans hR
          refine lv_aload_n hx hb d_Model_clash_25 rfl (lv_at hl 0 rfl) ?_
          refine va_get (D := (dC, dI)) (ci := 5) (v := .ref (aM 19)) (C := R_Model) (T := T_Model) (N := 30) hx hb hG in_Model hown hK hP 0 rfl rfl 25 (by decide) (hG _ m_639) (fun _ h9 => h9) rfl d_Model_clash_26 ?_
          refine lv_iload_n hx hb d_Model_clash_29 rfl (lv_at hl 3 rfl) ?_
          refine hw_zald (f := IM2) hx hb hK hP 19 2 rfl rfl (by decide) (by omega) d_Model_clash_30 ?_
          refine lv_if_eq (tgt := 44) hx hb d_Model_clash_31 (by decide) (fun c31 => ?_) (fun c31 => ?_)
          · replace hR := (if_pos c31).symm.trans hR
            refine lv_iinc (v := nI (x3_9 + 1)) (lv' := [(3, .int (nI (x3_9 + 1))), (0, .ref (aM 0)), (1, .int x1), (2, .int (nI x2_9))]) hx hb d_Model_clash_44 hl (k := 3) rfl (hw_inc _ 1) (by decide) rfl (fun ls hl => ?_)
            refine lv_goto (tgt := 9) hx hb d_Model_clash_47 (by decide) ?_
            rw [hrec_9] at hR
            exact ih_9 x2_9 (x3_9 + 1) (by first | assumption | omega | exact hw_upb (by assumption) (by omega)) (by omega) H locs hP hD hS ls (lv_sub hl [1, 2, 3, 0] rfl) hR
          · replace hR := (if_neg c31).symm.trans hR
            refine lv_iload_n hx hb d_Model_clash_34 rfl (lv_at hl 2 rfl) ?_
            refine lv_iload_n hx hb d_Model_clash_35 rfl (lv_at hl 1 rfl) ?_
            refine lv_icmp_ne (tgt := 41) hx hb d_Model_clash_36 (by decide) (fun c36 => ?_) (fun c36 => ?_)
            · replace hR := (if_neg c36).symm.trans hR
              refine lv_iinc (v := nI (x2_9 + 1)) (lv' := [(2, .int (nI (x2_9 + 1))), (0, .ref (aM 0)), (1, .int x1), (3, .int (nI x3_9))]) hx hb d_Model_clash_41 hl (k := 2) rfl (hw_inc _ 1) (by decide) rfl (fun ls hl => ?_)
              refine lv_iinc (v := nI (x3_9 + 1)) (lv' := [(3, .int (nI (x3_9 + 1))), (2, .int (nI (x2_9 + 1))), (0, .ref (aM 0)), (1, .int x1)]) hx hb d_Model_clash_44 hl (k := 3) rfl (hw_inc _ 1) (by decide) rfl (fun ls hl => ?_)
              refine lv_goto (tgt := 9) hx hb d_Model_clash_47 (by decide) ?_
              rw [hrec_9] at hR
              exact ih_9 (x2_9 + 1) (x3_9 + 1) (by first | assumption | omega | exact hw_upb (by assumption) (by omega)) (by omega) H locs hP hD hS ls (lv_sub hl [2, 3, 1, 0] rfl) hR
            · replace hR := (if_pos c36).symm.trans hR
              refine lv_iload_n hx hb d_Model_clash_39 rfl (lv_at hl 3 rfl) ?_
              subst hR
              exact W.iret (v := nI x3_9) hx hb hr (fun t ht hW => ⟨⟨_, (), rfl, rfl, by rw [ht]; exact hP, va_K.moved hW.alike hK, hD⟩, hS.F ht⟩) hS.2.2 d_Model_clash_40
  exact L_9 9 0 0 (by first | assumption | omega | exact hw_upb (by assumption) (by omega)) (by omega) H locs hP hD hS ls (lv_sub hl [2, 3, 1, 0] rfl) hR
def f_Model_list_h48B (VM2 : Nat) (NM2 : Nat → Nat) (x1 : Int32) (LM12 : Nat → Int64) (x5_11 : Nat) (x2 : Int32) (x3 : Int32) (k_48 : (Nat) → (Nat) → Int32 × (Nat)) (rec_48 : (Nat) → (Nat) → Int32 × (Nat)) (x4_48 : Nat) (x6_48 : Nat) : Int32 × (Nat) :=
  if VM2 ≤ x6_48 then (k_48 x4_48 x6_48) else (if (nI (NM2 x6_48)) = x1 then (if (LM12 ((8 * x5_11) + x6_48)) ≤ 0 then (rec_48 x4_48 (x6_48 + 1)) else (if (nI x4_48) = x2 then (if x3 = 0 then (nI x5_11, 0) else (if x3 = (nI 1) then (nI x6_48, 0) else ((LM12 ((8 * x5_11) + x6_48)).toInt32, 0))) else (rec_48 (x4_48 + 1) (x6_48 + 1)))) else (rec_48 x4_48 (x6_48 + 1)))
def f_Model_list_h48 (VM2 : Nat) (NM2 : Nat → Nat) (x1 : Int32) (LM12 : Nat → Int64) (x5_11 : Nat) (x2 : Int32) (x3 : Int32) (k_48 : (Nat) → (Nat) → Int32 × (Nat)) : Nat → (Nat) → (Nat) → Int32 × (Nat)
  | 0, x4_48, x6_48 => k_48 x4_48 x6_48
  | n + 1, x4_48, x6_48 => f_Model_list_h48B VM2 NM2 x1 LM12 x5_11 x2 x3 k_48 (fun x4_48 x6_48 => f_Model_list_h48 VM2 NM2 x1 LM12 x5_11 x2 x3 k_48 n x4_48 x6_48) x4_48 x6_48
def f_Model_list_x48 (rec_11 : (Nat) → (Nat) → Int32 × (Nat)) (x5_11 : Nat) (x4_48 : Nat) (x6_48 : Nat) : Int32 × (Nat) :=
  rec_11 x4_48 (x5_11 + 1)
def f_Model_list_h11B (VM1 : Nat) (VM4 : Nat) (VM5 : Nat) (x3 : Int32) (VM2 : Nat) (NM2 : Nat → Nat) (x1 : Int32) (LM12 : Nat → Int64) (x2 : Int32) (k_11 : (Nat) → (Nat) → Int32 × (Nat)) (rec_11 : (Nat) → (Nat) → Int32 × (Nat)) (x4_11 : Nat) (x5_11 : Nat) : Int32 × (Nat) :=
  if (VM1 + VM4) ≤ x5_11 then (k_11 x4_11 x5_11) else (if VM5 = 1 then (hh_bind (f_Model_isIn x3.toInt64 0 2) (fun y39 => if y39 = 0 then (k_11 x4_11 x5_11) else (f_Model_list_h48 VM2 NM2 x1 LM12 x5_11 x2 x3 (f_Model_list_x48 rec_11 x5_11) 9 x4_11 0))) else (k_11 x4_11 x5_11))
def f_Model_list_h11 (VM1 : Nat) (VM4 : Nat) (VM5 : Nat) (x3 : Int32) (VM2 : Nat) (NM2 : Nat → Nat) (x1 : Int32) (LM12 : Nat → Int64) (x2 : Int32) (k_11 : (Nat) → (Nat) → Int32 × (Nat)) : Nat → (Nat) → (Nat) → Int32 × (Nat)
  | 0, x4_11, x5_11 => k_11 x4_11 x5_11
  | n + 1, x4_11, x5_11 => f_Model_list_h11B VM1 VM4 VM5 x3 VM2 NM2 x1 LM12 x2 k_11 (fun x4_11 x5_11 => f_Model_list_h11 VM1 VM4 VM5 x3 VM2 NM2 x1 LM12 x2 k_11 n x4_11 x5_11) x4_11 x5_11
def f_Model_list_x11  (x4_11 : Nat) (x5_11 : Nat) : Int32 × (Nat) :=
  ((-1), 0)
def f_Model_list (VM1 : Nat) (VM2 : Nat) (VM4 : Nat) (VM5 : Nat) (NM2 : Nat → Nat) (LM12 : Nat → Int64) (x1 : Int32) (x2 : Int32) (x3 : Int32) : Int32 × (Nat) :=
  f_Model_list_h11 VM1 VM4 VM5 x3 VM2 NM2 x1 LM12 x2 f_Model_list_x11 13 0 0
set_option maxHeartbeats 4000000 in
set_option maxRecDepth 100000 in
theorem c_Model_list (l : Launch) (dC : Nat → ClassId) (dI : Nat → Nat → Nat) (cI cJ cZ : ClassId) (sz : Nat) (aM : Nat → Nat) (VM0 : Nat) (VM1 : Nat) (VM2 : Nat) (VM3 : Nat) (VM4 : Nat) (VM5 : Nat) (WM0 : Int64) (NM0 : Nat → Nat) (NM1 : Nat → Nat) (NM2 : Nat → Nat) (LM0 : Nat → Int64) (LM1 : Nat → Int64) (LM2 : Nat → Int64) (LM3 : Nat → Int64) (LM4 : Nat → Int64) (LM5 : Nat → Int64) (LM6 : Nat → Int64) (LM7 : Nat → Int64) (LM8 : Nat → Int64) (LM9 : Nat → Int64) (LM10 : Nat → Int64) (LM11 : Nat → Int64) (LM12 : Nat → Int64) (LM13 : Nat → Int64) (LM14 : Nat → Int64) (LM15 : Nat → Int64) (IM0 : Nat → Int32) (IM1 : Nat → Int32) (IM2 : Nat → Int32) (IM3 : Nat → Int32) (x1 : Int32) (x2 : Int32) (x3 : Int32) (m1 : VM1 ≤ 8) (m2 : VM2 ≤ 8) (m3 : VM3 ≤ 6) (m4 : VM4 ≤ 4) (mk4 : ∀ i, NM0 i < 4) (mcw : ∀ i, NM1 i < 12) (mfw : ∀ i, NM2 i < 12) (msb : ∀ i, i < 4 → ¬ LM5 i = 0) (m5 : VM5 ≤ 2) : hh_Ci l y_Model_list u_Model_list ({ frames := 1, cells := 0, slots := 0, locals := 25 }) (dC, dI) vwCl [(cI, .int), (cJ, .long), (cZ, .boolean)] (w_M cI cJ cZ aM VM0 VM1 VM2 VM3 VM4 VM5 WM0 NM0 NM1 NM2 LM0 LM1 LM2 LM3 LM4 LM5 LM6 LM7 LM8 LM9 LM10 LM11 LM12 LM13 LM14 LM15 IM0 IM1 IM2 IM3) sz [.ref (aM 0), .int x1, .int x2, .int x3] ((f_Model_list VM1 VM2 VM4 VM5 NM2 LM12 x1 x2 x3).1) (w_M cI cJ cZ aM ((f_Model_list VM1 VM2 VM4 VM5 NM2 LM12 x1 x2 x3).2) VM1 VM2 VM3 VM4 VM5 WM0 NM0 NM1 NM2 LM0 LM1 LM2 LM3 LM4 LM5 LM6 LM7 LM8 LM9 LM10 LM11 LM12 LM13 LM14 LM15 IM0 IM1 IM2 IM3) 0 0 := by
  unfold hh_Ci
  refine Met.ofW (cc := b_Model_list) (maxL := 7) (ret := (some .int)) (by decide) rfl ?_
  intro p e s m args below meth c s₁ B hml hv
  obtain ⟨rfl, hsz, hP, hK, hD0⟩ := hv
  have hx := B.exec
  have hb := B.bytes
  have hr := B.returns
  have hts := atoms_spec (ws := u_Model_list) B.pre
  have hG : ∀ w ∈ wG, w.before ([.ref (aM 0), .int x1, .int x2, .int x3]).toArray s = true := fun w h => hts w (List.mem_cons_of_mem _ h)
  have hown : s.vm.findClass R_Model = some m.cls := findClass_of_methodNamed B.named
  have hlocks := B.notSynchronized
  subst hsz
  have hD := hD0.self (sz := s.heap.size)
  generalize hAe : va_A (w_M cI cJ cZ aM VM0 VM1 VM2 VM3 VM4 VM5 WM0 NM0 NM1 NM2 LM0 LM1 LM2 LM3 LM4 LM5 LM6 LM7 LM8 LM9 LM10 LM11 LM12 LM13 LM14 LM15 IM0 IM1 IM2 IM3) s.heap.size = A at hD ⊢
  have hA : ∀ q : Nat, s.heap.size ≤ q → A q := fun q h => by rw [← hAe]; exact Or.inr h
  have hS : va_S A s.heap s.heap [] := va_S.rf
  have hl := lv_entry ([.ref (aM 0), .int x1, .int x2, .int x3]) (n := 7) (Nat.le_of_ble_eq_true rfl)
  rw [lg_entry_eq]
  generalize (lg_sl ([.ref (aM 0), .int x1, .int x2, .int x3]) ++ List.replicate (7 - (lg_sl ([.ref (aM 0), .int x1, .int x2, .int x3])).length) Slot.unset).toArray = ls at hl ⊢
  have hl : lv_has ls 7 [(0, .ref (aM 0)), (1, .int x1), (2, .int x2), (3, .int x3)] := hl
  generalize hR : f_Model_list VM1 VM2 VM4 VM5 NM2 LM12 x1 x2 x3 = r0
  obtain ⟨H, locs, hHe, hle⟩ : ∃ (H : Heap) (locs : List Loc), s.heap = H ∧ [] = locs := ⟨_, _, rfl, rfl⟩
  have hP : va_P (dC, dI) vwCl (w_M cI cJ cZ aM VM0 VM1 VM2 VM3 VM4 VM5 WM0 NM0 NM1 NM2 LM0 LM1 LM2 LM3 LM4 LM5 LM6 LM7 LM8 LM9 LM10 LM11 LM12 LM13 LM14 LM15 IM0 IM1 IM2 IM3) H := by rw [← hHe]; exact hP
  have hS : va_S A s.heap H locs := by rw [← hHe, ← hle]; exact hS
  refine hw_start hHe hle ?_
  unfold f_Model_list at hR
  refine lv_aload_n hx hb d_Model_list_0 rfl (lv_at hl 0 rfl) ?_
  refine lv_iconst (v := nI 0) hx hb d_Model_list_1 (by decide) ?_
  refine va_put (D := (dC, dI)) (ci := 5) (v := .int (nI 0)) (ty := .int) (C := R_Model) (T := T_Model) (N := 30) hx hb hG in_Model ty_Model tok_Model nok_Model hown hK hP hD hS 0 rfl rfl 0 (by decide) (hG _ m_614) (fun _ h9 => h9) rfl (by decide +kernel) rfl rfl (Nat.le_of_ble_eq_true rfl) d_Model_list_2 (fun H locs hP hD hS => ?_)
  have hP : va_P (dC, dI) vwCl (w_M cI cJ cZ aM 0 VM1 VM2 VM3 VM4 VM5 WM0 NM0 NM1 NM2 LM0 LM1 LM2 LM3 LM4 LM5 LM6 LM7 LM8 LM9 LM10 LM11 LM12 LM13 LM14 LM15 IM0 IM1 IM2 IM3) H := hP
  have hD : va_D A (w_M cI cJ cZ aM 0 VM1 VM2 VM3 VM4 VM5 WM0 NM0 NM1 NM2 LM0 LM1 LM2 LM3 LM4 LM5 LM6 LM7 LM8 LM9 LM10 LM11 LM12 LM13 LM14 LM15 IM0 IM1 IM2 IM3) := hD
  refine lv_iconst (v := nI 0) hx hb d_Model_list_5 (by decide) ?_
  refine lv_istore (lv' := [(4, .int (nI 0)), (0, .ref (aM 0)), (1, .int x1), (2, .int x2), (3, .int x3)]) hx hb d_Model_list_6 hl (by decide) rfl (fun ls hl => ?_)
  refine lv_iconst (v := nI 0) hx hb d_Model_list_8 (by decide) ?_
  refine lv_istore (lv' := [(5, .int (nI 0)), (4, .int (nI 0)), (0, .ref (aM 0)), (1, .int x1), (2, .int x2), (3, .int x3)]) hx hb d_Model_list_9 hl (by decide) rfl (fun ls hl => ?_)
  obtain ⟨k_11, hk_11, hR⟩ : ∃ k, f_Model_list_x11 = k ∧ f_Model_list_h11 VM1 VM4 VM5 x3 VM2 NM2 x1 LM12 x2 k 13 0 0 = r0 := ⟨_, rfl, hR⟩
  have X_11 : ∀ (x4_11 : Nat) (x5_11 : Nat) (hi : x5_11 ≤ (VM1 + VM4)) (H : Heap) (locs : List Loc) (hP : va_P (dC, dI) vwCl (w_M cI cJ cZ aM 0 VM1 VM2 VM3 VM4 VM5 WM0 NM0 NM1 NM2 LM0 LM1 LM2 LM3 LM4 LM5 LM6 LM7 LM8 LM9 LM10 LM11 LM12 LM13 LM14 LM15 IM0 IM1 IM2 IM3) H) (hD : va_D A (w_M cI cJ cZ aM 0 VM1 VM2 VM3 VM4 VM5 WM0 NM0 NM1 NM2 LM0 LM1 LM2 LM3 LM4 LM5 LM6 LM7 LM8 LM9 LM10 LM11 LM12 LM13 LM14 LM15 IM0 IM1 IM2 IM3)) (hS : va_S A s.heap H locs) (ls : Array Slot) (hl : lv_has ls 7 [(0, .ref (aM 0)), (1, .int x1), (2, .int x2), (3, .int x3), (4, .int (nI x4_11)), (5, .int (nI x5_11))]) (hR : k_11 x4_11 x5_11 = r0), W p l e (headSpec u_Model_list ({ frames := 1, cells := 0, slots := 0, locals := 25 })).room s m ([.ref (aM 0), .int x1, .int x2, .int x3]).toArray below meth c H locs 0 0 (hh_Zi below (dC, dI) vwCl [(cI, .int), (cJ, .long), (cZ, .boolean)] A r0.1 (w_M cI cJ cZ aM r0.2 VM1 VM2 VM3 VM4 VM5 WM0 NM0 NM1 NM2 LM0 LM1 LM2 LM3 LM4 LM5 LM6 LM7 LM8 LM9 LM10 LM11 LM12 LM13 LM14 LM15 IM0 IM1 IM2 IM3) ([.ref (aM 0), .int x1, .int x2, .int x3]).toArray s) (F0 m 141 ls []) := by
    intro x4_11 x5_11 hi H locs hP hD hS ls hl hR
    rw [← hk_11] at hR
    unfold f_Model_list_x11 at hR
    refine lv_iconst (v := (-1)) hx hb d_Model_list_141 (by decide) ?_
    subst hR
    exact W.iret (v := (-1)) hx hb hr (fun t ht hW => ⟨⟨_, (), rfl, rfl, by rw [ht]; exact hP, va_K.moved hW.alike hK, hD⟩, hS.F ht⟩) hS.2.2 d_Model_list_142
  have L_11 : ∀ (n : Nat) (x4_11 : Nat) (x5_11 : Nat) (hi : x5_11 ≤ (VM1 + VM4)) (hfu : (VM1 + VM4) - x5_11 < n) (H : Heap) (locs : List Loc) (hP : va_P (dC, dI) vwCl (w_M cI cJ cZ aM 0 VM1 VM2 VM3 VM4 VM5 WM0 NM0 NM1 NM2 LM0 LM1 LM2 LM3 LM4 LM5 LM6 LM7 LM8 LM9 LM10 LM11 LM12 LM13 LM14 LM15 IM0 IM1 IM2 IM3) H) (hD : va_D A (w_M cI cJ cZ aM 0 VM1 VM2 VM3 VM4 VM5 WM0 NM0 NM1 NM2 LM0 LM1 LM2 LM3 LM4 LM5 LM6 LM7 LM8 LM9 LM10 LM11 LM12 LM13 LM14 LM15 IM0 IM1 IM2 IM3)) (hS : va_S A s.heap H locs) (ls : Array Slot) (hl : lv_has ls 7 [(0, .ref (aM 0)), (1, .int x1), (2, .int x2), (3, .int x3), (4, .int (nI x4_11)), (5, .int (nI x5_11))]) (hR : f_Model_list_h11 VM1 VM4 VM5 x3 VM2 NM2 x1 LM12 x2 k_11 n x4_11 x5_11 = r0), W p l e (headSpec u_Model_list ({ frames := 1, cells := 0, slots := 0, locals := 25 })).room s m ([.ref (aM 0), .int x1, .int x2, .int x3]).toArray below meth c H locs 0 0 (hh_Zi below (dC, dI) vwCl [(cI, .int), (cJ, .long), (cZ, .boolean)] A r0.1 (w_M cI cJ cZ aM r0.2 VM1 VM2 VM3 VM4 VM5 WM0 NM0 NM1 NM2 LM0 LM1 LM2 LM3 LM4 LM5 LM6 LM7 LM8 LM9 LM10 LM11 LM12 LM13 LM14 LM15 IM0 IM1 IM2 IM3) ([.ref (aM 0), .int x1, .int x2, .int x3]).toArray s) (F0 m 11 ls []) := by
    intro n
    induction n with
    | zero =>
      intro x4_11 x5_11 hi hfu H locs hP hD hS ls hl hR
      exact absurd hfu (Nat.not_lt_zero _)
    | succ n ih_11 =>
      intro x4_11 x5_11 hi hfu H locs hP hD hS ls hl hR
      rw [f_Model_list_h11] at hR
      obtain ⟨rec_11, hrec_11, hR⟩ : ∃ r, r = _ ∧ f_Model_list_h11B VM1 VM4 VM5 x3 VM2 NM2 x1 LM12 x2 k_11 r x4_11 x5_11 = r0 := ⟨_, rfl, hR⟩
      unfold f_Model_list_h11B at hR
      refine lv_iload hx hb d_Model_list_11 (lv_at hl 5 rfl) ?_
      refine lv_aload_n hx hb d_Model_list_13 rfl (lv_at hl 0 rfl) ?_
      refine va_get (D := (dC, dI)) (ci := 5) (v := .int (nI VM1)) (C := R_Model) (T := T_Model) (N := 30) hx hb hG in_Model hown hK hP 0 rfl rfl 1 (by decide) (hG _ m_615) (fun _ h9 => h9) rfl d_Model_list_14 ?_
      refine lv_aload_n hx hb d_Model_list_17 rfl (lv_at hl 0 rfl) ?_
      refine va_get (D := (dC, dI)) (ci := 5) (v := .int (nI VM4)) (C := R_Model) (T := T_Model) (N := 30) hx hb hG in_Model hown hK hP 0 rfl rfl 18 (by decide) (hG _ m_632) (fun _ h9 => h9) rfl d_Model_list_18 ?_
      refine hw_iadd hx hb d_Model_list_21 ?_
      refine hw_icmp_ge (tgt := 141) hx hb d_Model_list_22 (by decide) (by omega) (by omega) (fun c22 => ?_) (fun c22 => ?_)
      · replace hR := (if_pos c22).symm.trans hR
        exact X_11 x4_11 x5_11 (by first | assumption | omega | exact hw_upb (by assumption) (by omega)) H locs hP hD hS ls (lv_sub hl [0, 1, 2, 3, 4, 5] rfl) hR
      · replace hR := (if_neg c22).symm.trans hR
        refine lv_aload_n hx hb d_Model_list_25 rfl (lv_at hl 0 rfl) ?_
        refine va_get (D := (dC, dI)) (ci := 5) (v := .int (nI VM5)) (C := R_Model) (T := T_Model) (N := 30) hx hb hG in_Model hown hK hP 0 rfl rfl 22 (by decide) (hG _ m_636) (fun _ h9 => h9) rfl d_Model_list_26 ?_
        refine lv_iconst (v := nI 1) hx hb d_Model_list_29 (by decide) ?_
        refine hw_icmp_ne (tgt := 141) hx hb d_Model_list_30 (by decide) (by omega) (by omega) (fun c30 => ?_) (fun c30 => ?_)
        · replace hR := (if_neg c30).symm.trans hR
          exact X_11 x4_11 x5_11 (by first | assumption | omega | exact hw_upb (by assumption) (by omega)) H locs hP hD hS ls (lv_sub hl [0, 1, 2, 3, 4, 5] rfl) hR
        · replace hR := (if_pos c30).symm.trans hR
          refine lv_iload_n hx hb d_Model_list_33 rfl (lv_at hl 3 rfl) ?_
          refine lv_i2l (v := x3.toInt64) hx hb d_Model_list_34 rfl ?_
          refine lv_lconst (v := 0) hx hb d_Model_list_35 (by decide) ?_
          refine lv_ldc2 (v := 2) hx hb hown (hG _ m_815) d_Model_list_36 ?_
          obtain ⟨y39, hy39, hR⟩ := hw_bind hR
          have hM := c_Model_isIn l dC dI cI cJ cZ H.size x3.toInt64 0 2
          rw [hy39] at hM
          refine hw_callSi (As := [.long x3.toInt64, .long 0, .long 2]) (rest := []) (wr := w_M cI cJ cZ aM 0 VM1 VM2 VM3 VM4 VM5 WM0 NM0 NM1 NM2 LM0 LM1 LM2 LM3 LM4 LM5 LM6 LM7 LM8 LM9 LM10 LM11 LM12 LM13 LM14 LM15 IM0 IM1 IM2 IM3) ⟨hx, hb, hml, hown, hG⟩ hM (hw_cwS 3 hG m_714 m_715 m_7 m_716 rfl rfl (by decide +kernel) ⟨Nat.le_of_ble_eq_true rfl, Nat.le_of_ble_eq_true rfl⟩) hK hP hD hS hA [] [0, 1, 2, 3, 4, 5, 6, 7, 8, 9, 10, 11, 12, 13, 14, 15, 16, 17, 18, 19, 20, 21, 22, 23] rfl rfl (by decide) (by decide) (by decide) rfl hl.1 rfl (Nat.le_of_ble_eq_true rfl) d_Model_list_39 ⟨Nat.le_of_ble_eq_true rfl, Nat.le_of_ble_eq_true rfl⟩ (fun H locs hP hD hS => ?_)
          have hP : va_P (dC, dI) vwCl (w_M cI cJ cZ aM 0 VM1 VM2 VM3 VM4 VM5 WM0 NM0 NM1 NM2 LM0 LM1 LM2 LM3 LM4 LM5 LM6 LM7 LM8 LM9 LM10 LM11 LM12 LM13 LM14 LM15 IM0 IM1 IM2 IM3) H := hP
          have hD : va_D A (w_M cI cJ cZ aM 0 VM1 VM2 VM3 VM4 VM5 WM0 NM0 NM1 NM2 LM0 LM1 LM2 LM3 LM4 LM5 LM6 LM7 LM8 LM9 LM10 LM11 LM12 LM13 LM14 LM15 IM0 IM1 IM2 IM3) := hD
          have hbl39 := hm_in (x := x3) (n := 3) (hi := 2) (by decide)
          rw [hy39] at hbl39
          refine lv_if_eq (tgt := 141) hx hb d_Model_list_42 (by decide) (fun c42 => ?_) (fun c42 => ?_)
          · replace hR := (if_pos c42).symm.trans hR
            exact X_11 x4_11 x5_11 (by first | assumption | omega | exact hw_upb (by assumption) (by omega)) H locs hP hD hS ls (lv_sub hl [0, 1, 2, 3, 4, 5] rfl) hR
          · replace hR := (if_neg c42).symm.trans hR
            refine lv_iconst (v := nI 0) hx hb d_Model_list_45 (by decide) ?_
            refine lv_istore (lv' := [(6, .int (nI 0)), (0, .ref (aM 0)), (1, .int x1), (2, .int x2), (3, .int x3), (4, .int (nI x4_11)), (5, .int (nI x5_11))]) hx hb d_Model_list_46 hl (by decide) rfl (fun ls hl => ?_)
            obtain ⟨k_48, hk_48, hR⟩ : ∃ k, (f_Model_list_x48 rec_11 x5_11) = k ∧ f_Model_list_h48 VM2 NM2 x1 LM12 x5_11 x2 x3 k 9 x4_11 0 = r0 := ⟨_, rfl, hR⟩
            have X_48 : ∀ (x4_48 : Nat) (x6_48 : Nat) (hi : x6_48 ≤ VM2) (H : Heap) (locs : List Loc) (hP : va_P (dC, dI) vwCl (w_M cI cJ cZ aM 0 VM1 VM2 VM3 VM4 VM5 WM0 NM0 NM1 NM2 LM0 LM1 LM2 LM3 LM4 LM5 LM6 LM7 LM8 LM9 LM10 LM11 LM12 LM13 LM14 LM15 IM0 IM1 IM2 IM3) H) (hD : va_D A (w_M cI cJ cZ aM 0 VM1 VM2 VM3 VM4 VM5 WM0 NM0 NM1 NM2 LM0 LM1 LM2 LM3 LM4 LM5 LM6 LM7 LM8 LM9 LM10 LM11 LM12 LM13 LM14 LM15 IM0 IM1 IM2 IM3)) (hS : va_S A s.heap H locs) (ls : Array Slot) (hl : lv_has ls 7 [(0, .ref (aM 0)), (1, .int x1), (2, .int x2), (3, .int x3), (4, .int (nI x4_48)), (5, .int (nI x5_11)), (6, .int (nI x6_48))]) (hR : k_48 x4_48 x6_48 = r0), W p l e (headSpec u_Model_list ({ frames := 1, cells := 0, slots := 0, locals := 25 })).room s m ([.ref (aM 0), .int x1, .int x2, .int x3]).toArray below meth c H locs 0 0 (hh_Zi below (dC, dI) vwCl [(cI, .int), (cJ, .long), (cZ, .boolean)] A r0.1 (w_M cI cJ cZ aM r0.2 VM1 VM2 VM3 VM4 VM5 WM0 NM0 NM1 NM2 LM0 LM1 LM2 LM3 LM4 LM5 LM6 LM7 LM8 LM9 LM10 LM11 LM12 LM13 LM14 LM15 IM0 IM1 IM2 IM3) ([.ref (aM 0), .int x1, .int x2, .int x3]).toArray s) (F0 m 135 ls []) := by
              intro x4_48 x6_48 hi H locs hP hD hS ls hl hR
              rw [← hk_48] at hR
              unfold f_Model_list_x48 at hR
              refine lv_iinc (v := nI (x5_11 + 1)) (lv' := [(5, .int (nI (x5_11 + 1))), (0, .ref (aM 0)), (1, .int x1), (2, .int x2), (3, .int x3), (4, .int (nI x4_48)), (6, .int (nI x6_48))]) hx hb d_Model_list_135 hl (k := 5) rfl (hw_inc _ 1) (by decide) rfl (fun ls hl => ?_)
              refine lv_goto (tgt := 11) hx hb d_Model_list_138 (by decide) ?_
              rw [hrec_11] at hR
              exact ih_11 x4_48 (x5_11 + 1) (by first | assumption | omega | exact hw_upb (by assumption) (by omega)) (by omega) H locs hP hD hS ls (lv_sub hl [1, 2, 3, 4, 5, 0] rfl) hR
            have L_48 : ∀ (n : Nat) (x4_48 : Nat) (x6_48 : Nat) (hi : x6_48 ≤ VM2) (hfu : VM2 - x6_48 < n) (H : Heap) (locs : List Loc) (hP : va_P (dC, dI) vwCl (w_M cI cJ cZ aM 0 VM1 VM2 VM3 VM4 VM5 WM0 NM0 NM1 NM2 LM0 LM1 LM2 LM3 LM4 LM5 LM6 LM7 LM8 LM9 LM10 LM11 LM12 LM13 LM14 LM15 IM0 IM1 IM2 IM3) H) (hD : va_D A (w_M cI cJ cZ aM 0 VM1 VM2 VM3 VM4 VM5 WM0 NM0 NM1 NM2 LM0 LM1 LM2 LM3 LM4 LM5 LM6 LM7 LM8 LM9 LM10 LM11 LM12 LM13 LM14 LM15 IM0 IM1 IM2 IM3)) (hS : va_S A s.heap H locs) (ls : Array Slot) (hl : lv_has ls 7 [(0, .ref (aM 0)), (1, .int x1), (2, .int x2), (3, .int x3), (4, .int (nI x4_48)), (5, .int (nI x5_11)), (6, .int (nI x6_48))]) (hR : f_Model_list_h48 VM2 NM2 x1 LM12 x5_11 x2 x3 k_48 n x4_48 x6_48 = r0), W p l e (headSpec u_Model_list ({ frames := 1, cells := 0, slots := 0, locals := 25 })).room s m ([.ref (aM 0), .int x1, .int x2, .int x3]).toArray below meth c H locs 0 0 (hh_Zi below (dC, dI) vwCl [(cI, .int), (cJ, .long), (cZ, .boolean)] A r0.1 (w_M cI cJ cZ aM r0.2 VM1 VM2 VM3 VM4 VM5 WM0 NM0 NM1 NM2 LM0 LM1 LM2 LM3 LM4 LM5 LM6 LM7 LM8 LM9 LM10 LM11 LM12 LM13 LM14 LM15 IM0 IM1 IM2 IM3) ([.ref (aM 0), .int x1, .int x2, .int x3]).toArray s) (F0 m 48 ls []) := by
              intro n
              induction n with
              | zero =>
                intro x4_48 x6_48 hi hfu H locs hP hD hS ls hl hR
                exact absurd hfu (Nat.not_lt_zero _)
              | succ n ih_48 =>
                intro x4_48 x6_48 hi hfu H locs hP hD hS ls hl hR
                rw [f_Model_list_h48] at hR
                obtain ⟨rec_48, hrec_48, hR⟩ : ∃ r, r = _ ∧ f_Model_list_h48B VM2 NM2 x1 LM12 x5_11 x2 x3 k_48 r x4_48 x6_48 = r0 := ⟨_, rfl, hR⟩
                unfold f_Model_list_h48B at hR
                refine lv_iload hx hb d_Model_list_48 (lv_at hl 6 rfl) ?_
                refine lv_aload_n hx hb d_Model_list_50 rfl (lv_at hl 0 rfl) ?_
                refine va_get (D := (dC, dI)) (ci := 5) (v := .int (nI VM2)) (C := R_Model) (T := T_Model) (N := 30) hx hb hG in_Model hown hK hP 0 rfl rfl 6 (by decide) (hG _ m_620) (fun _ h9 => h9) rfl d_Model_list_51 ?_
                refine hw_icmp_ge (tgt := 135) hx hb d_Model_list_54 (by decide) (by omega) (by omega) (fun c54 => ?_) (fun c54 => ?_)
                · replace hR := (if_pos c54).symm.trans hR
                  exact X_48 x4_48 x6_48 (by first | assumption | omega | exact hw_upb (by assumption) (by omega)) H locs hP hD hS ls (lv_sub hl [0, 1, 2, 3, 4, 5, 6] rfl) hR
                · replace hR := (if_neg c54).symm.trans hR
                  refine lv_aload_n hx hb d_Model_list_57 rfl (lv_at hl 0 rfl) ?_
                  refine va_get (D := (dC, dI)) (ci := 5) (v := .ref (aM 6)) (C := R_Model) (T := T_Model) (N := 30) hx hb hG in_Model hown hK hP 0 rfl rfl 8 (by decide) (hG _ m_622) (fun _ h9 => h9) rfl d_Model_list_58 ?_
                  refine lv_iload hx hb d_Model_list_61 (lv_at hl 6 rfl) ?_
                  refine hw_nald (g := NM2) hx hb hK hP 6 0 rfl rfl (by decide) (by omega) d_Model_list_63 ?_
                  have hb63 := mfw x6_48
                  refine lv_iload_n hx hb d_Model_list_64 rfl (lv_at hl 1 rfl) ?_
                  refine lv_icmp_ne (tgt := 129) hx hb d_Model_list_65 (by decide) (fun c65 => ?_) (fun c65 => ?_)
                  · replace hR := (if_neg c65).symm.trans hR
                    refine lv_iinc (v := nI (x6_48 + 1)) (lv' := [(6, .int (nI (x6_48 + 1))), (0, .ref (aM 0)), (1, .int x1), (2, .int x2), (3, .int x3), (4, .int (nI x4_48)), (5, .int (nI x5_11))]) hx hb d_Model_list_129 hl (k := 6) rfl (hw_inc _ 1) (by decide) rfl (fun ls hl => ?_)
                    refine lv_goto (tgt := 48) hx hb d_Model_list_132 (by decide) ?_
                    rw [hrec_48] at hR
                    exact ih_48 x4_48 (x6_48 + 1) (by first | assumption | omega | exact hw_upb (by assumption) (by omega)) (by omega) H locs hP hD hS ls (lv_sub hl [1, 2, 3, 4, 5, 6, 0] rfl) hR
                  · replace hR := (if_pos c65).symm.trans hR
                    refine lv_aload_n hx hb d_Model_list_68 rfl (lv_at hl 0 rfl) ?_
                    refine va_get (D := (dC, dI)) (ci := 5) (v := .ref (aM 18)) (C := R_Model) (T := T_Model) (N := 30) hx hb hG in_Model hown hK hP 0 rfl rfl 23 (by decide) (hG _ m_637) (fun _ h9 => h9) rfl d_Model_list_69 ?_
                    refine lv_bipush (v := nI 8) hx hb d_Model_list_72 (by decide) ?_
                    refine lv_iload hx hb d_Model_list_74 (lv_at hl 5 rfl) ?_
                    refine hw_imul hx hb d_Model_list_76 ?_
                    refine lv_iload hx hb d_Model_list_77 (lv_at hl 6 rfl) ?_
                    refine hw_iadd hx hb d_Model_list_79 ?_
                    refine hw_lald (f := LM12) hx hb hK hP 18 1 rfl rfl (by decide) (by omega) d_Model_list_80 ?_
                    refine lv_lconst (v := 0) hx hb d_Model_list_81 (by decide) ?_
                    refine hw_lcmp_le (tgt := 129) hx hb d_Model_list_82 d_Model_list_83 (by decide) (fun c82 => ?_) (fun c82 => ?_)
                    · replace hR := (if_pos c82).symm.trans hR
                      refine lv_iinc (v := nI (x6_48 + 1)) (lv' := [(6, .int (nI (x6_48 + 1))), (0, .ref (aM 0)), (1, .int x1), (2, .int x2), (3, .int x3), (4, .int (nI x4_48)), (5, .int (nI x5_11))]) hx hb d_Model_list_129 hl (k := 6) rfl (hw_inc _ 1) (by decide) rfl (fun ls hl => ?_)
                      refine lv_goto (tgt := 48) hx hb d_Model_list_132 (by decide) ?_
                      rw [hrec_48] at hR
                      exact ih_48 x4_48 (x6_48 + 1) (by first | assumption | omega | exact hw_upb (by assumption) (by omega)) (by omega) H locs hP hD hS ls (lv_sub hl [1, 2, 3, 4, 5, 6, 0] rfl) hR
                    · replace hR := (if_neg c82).symm.trans hR
                      refine lv_iload hx hb d_Model_list_86 (lv_at hl 4 rfl) ?_
                      refine lv_iload_n hx hb d_Model_list_88 rfl (lv_at hl 2 rfl) ?_
                      refine lv_icmp_ne (tgt := 126) hx hb d_Model_list_89 (by decide) (fun c89 => ?_) (fun c89 => ?_)
                      · replace hR := (if_neg c89).symm.trans hR
                        refine lv_iinc (v := nI (x4_48 + 1)) (lv' := [(4, .int (nI (x4_48 + 1))), (0, .ref (aM 0)), (1, .int x1), (2, .int x2), (3, .int x3), (5, .int (nI x5_11)), (6, .int (nI x6_48))]) hx hb d_Model_list_126 hl (k := 4) rfl (hw_inc _ 1) (by decide) rfl (fun ls hl => ?_)
                        refine lv_iinc (v := nI (x6_48 + 1)) (lv' := [(6, .int (nI (x6_48 + 1))), (4, .int (nI (x4_48 + 1))), (0, .ref (aM 0)), (1, .int x1), (2, .int x2), (3, .int x3), (5, .int (nI x5_11))]) hx hb d_Model_list_129 hl (k := 6) rfl (hw_inc _ 1) (by decide) rfl (fun ls hl => ?_)
                        refine lv_goto (tgt := 48) hx hb d_Model_list_132 (by decide) ?_
                        rw [hrec_48] at hR
                        exact ih_48 (x4_48 + 1) (x6_48 + 1) (by first | assumption | omega | exact hw_upb (by assumption) (by omega)) (by omega) H locs hP hD hS ls (lv_sub hl [2, 3, 4, 5, 1, 6, 0] rfl) hR
                      · replace hR := (if_pos c89).symm.trans hR
                        refine lv_iload_n hx hb d_Model_list_92 rfl (lv_at hl 3 rfl) ?_
                        refine lv_if_ne (tgt := 101) hx hb d_Model_list_93 (by decide) (fun c93 => ?_) (fun c93 => ?_)
                        · replace hR := (if_neg c93).symm.trans hR
                          refine lv_iload_n hx hb d_Model_list_101 rfl (lv_at hl 3 rfl) ?_
                          refine lv_iconst (v := nI 1) hx hb d_Model_list_102 (by decide) ?_
                          refine lv_icmp_ne (tgt := 111) hx hb d_Model_list_103 (by decide) (fun c103 => ?_) (fun c103 => ?_)
                          · replace hR := (if_neg c103).symm.trans hR
                            refine lv_aload_n hx hb d_Model_list_111 rfl (lv_at hl 0 rfl) ?_
                            refine va_get (D := (dC, dI)) (ci := 5) (v := .ref (aM 18)) (C := R_Model) (T := T_Model) (N := 30) hx hb hG in_Model hown hK hP 0 rfl rfl 23 (by decide) (hG _ m_637) (fun _ h9 => h9) rfl d_Model_list_112 ?_
                            refine lv_bipush (v := nI 8) hx hb d_Model_list_115 (by decide) ?_
                            refine lv_iload hx hb d_Model_list_117 (lv_at hl 5 rfl) ?_
                            refine hw_imul hx hb d_Model_list_119 ?_
                            refine lv_iload hx hb d_Model_list_120 (lv_at hl 6 rfl) ?_
                            refine hw_iadd hx hb d_Model_list_122 ?_
                            refine hw_lald (f := LM12) hx hb hK hP 18 1 rfl rfl (by decide) (by omega) d_Model_list_123 ?_
                            refine lv_l2i (v := (LM12 ((8 * x5_11) + x6_48)).toInt32) hx hb d_Model_list_124 rfl ?_
                            subst hR
                            exact W.iret (v := (LM12 ((8 * x5_11) + x6_48)).toInt32) hx hb hr (fun t ht hW => ⟨⟨_, (), rfl, rfl, by rw [ht]; exact hP, va_K.moved hW.alike hK, hD⟩, hS.F ht⟩) hS.2.2 d_Model_list_125
                          · replace hR := (if_pos c103).symm.trans hR
                            refine lv_iload hx hb d_Model_list_106 (lv_at hl 6 rfl) ?_
                            refine lv_goto (tgt := 125) hx hb d_Model_list_108 (by decide) ?_
                            subst hR
                            exact W.iret (v := nI x6_48) hx hb hr (fun t ht hW => ⟨⟨_, (), rfl, rfl, by rw [ht]; exact hP, va_K.moved hW.alike hK, hD⟩, hS.F ht⟩) hS.2.2 d_Model_list_125
                        · replace hR := (if_pos c93).symm.trans hR
                          refine lv_iload hx hb d_Model_list_96 (lv_at hl 5 rfl) ?_
                          refine lv_goto (tgt := 125) hx hb d_Model_list_98 (by decide) ?_
                          subst hR
                          exact W.iret (v := nI x5_11) hx hb hr (fun t ht hW => ⟨⟨_, (), rfl, rfl, by rw [ht]; exact hP, va_K.moved hW.alike hK, hD⟩, hS.F ht⟩) hS.2.2 d_Model_list_125
            exact L_48 9 x4_11 0 (by first | assumption | omega | exact hw_upb (by assumption) (by omega)) (by omega) H locs hP hD hS ls (lv_sub hl [1, 2, 3, 4, 5, 6, 0] rfl) hR
  exact L_11 13 0 0 (by first | assumption | omega | exact hw_upb (by assumption) (by omega)) (by omega) H locs hP hD hS ls (lv_sub hl [2, 3, 4, 5, 1, 0] rfl) hR
def f_Model_mass_h175B (VM2 : Nat) (VM1 : Nat) (LM1 : Nat → Int64) (LM9 : Nat → Int64) (x6_153 : Nat) (x1 : Int64) (LM3 : Nat → Int64) (x3 : Int32) (LM12 : Nat → Int64) (k_175 : (Int64) → (Nat) → Int64 × (Nat)) (rec_175 : (Int64) → (Nat) → Int64 × (Nat)) (x4_175 : Int64) (x7_175 : Nat) : Int64 × (Nat) :=
  if VM2 ≤ x7_175 then (k_175 x4_175 x7_175) else (hh_bind (f_Model_metreOf VM1 LM1 LM9 x6_153) (fun y187 => if x1 < y187 then (if x1 < (LM3 x7_175) then (if 0 = 0 then (rec_175 x4_175 (x7_175 + 1)) else (if x3 = (nI 2) then (if 0 = 1 then (rec_175 (x4_175 + (LM12 ((8 * x6_153) + x7_175))) (x7_175 + 1)) else (rec_175 x4_175 (x7_175 + 1))) else (if 0 = 0 then (rec_175 (x4_175 + (LM12 ((8 * x6_153) + x7_175))) (x7_175 + 1)) else (rec_175 x4_175 (x7_175 + 1))))) else (if 0 = 1 then (rec_175 x4_175 (x7_175 + 1)) else (if x3 = (nI 2) then (if 0 = 1 then (rec_175 (x4_175 + (LM12 ((8 * x6_153) + x7_175))) (x7_175 + 1)) else (rec_175 x4_175 (x7_175 + 1))) else (if 0 = 0 then (rec_175 (x4_175 + (LM12 ((8 * x6_153) + x7_175))) (x7_175 + 1)) else (rec_175 x4_175 (x7_175 + 1)))))) else (if x1 < (LM3 x7_175) then (if 1 = 0 then (rec_175 x4_175 (x7_175 + 1)) else (if x3 = (nI 2) then (if 1 = 1 then (rec_175 (x4_175 + (LM12 ((8 * x6_153) + x7_175))) (x7_175 + 1)) else (rec_175 x4_175 (x7_175 + 1))) else (if 1 = 0 then (rec_175 (x4_175 + (LM12 ((8 * x6_153) + x7_175))) (x7_175 + 1)) else (rec_175 x4_175 (x7_175 + 1))))) else (if 1 = 1 then (rec_175 x4_175 (x7_175 + 1)) else (if x3 = (nI 2) then (if 1 = 1 then (rec_175 (x4_175 + (LM12 ((8 * x6_153) + x7_175))) (x7_175 + 1)) else (rec_175 x4_175 (x7_175 + 1))) else (if 1 = 0 then (rec_175 (x4_175 + (LM12 ((8 * x6_153) + x7_175))) (x7_175 + 1)) else (rec_175 x4_175 (x7_175 + 1))))))))
def f_Model_mass_h175 (VM2 : Nat) (VM1 : Nat) (LM1 : Nat → Int64) (LM9 : Nat → Int64) (x6_153 : Nat) (x1 : Int64) (LM3 : Nat → Int64) (x3 : Int32) (LM12 : Nat → Int64) (k_175 : (Int64) → (Nat) → Int64 × (Nat)) : Nat → (Int64) → (Nat) → Int64 × (Nat)
  | 0, x4_175, x7_175 => k_175 x4_175 x7_175
  | n + 1, x4_175, x7_175 => f_Model_mass_h175B VM2 VM1 LM1 LM9 x6_153 x1 LM3 x3 LM12 k_175 (fun x4_175 x7_175 => f_Model_mass_h175 VM2 VM1 LM1 LM9 x6_153 x1 LM3 x3 LM12 k_175 n x4_175 x7_175) x4_175 x7_175
def f_Model_mass_x175 (rec_153 : (Int64) → (Nat) → Int64 × (Nat)) (x6_153 : Nat) (x4_175 : Int64) (x7_175 : Nat) : Int64 × (Nat) :=
  rec_153 x4_175 (x6_153 + 1)
def f_Model_mass_h153B (VM1 : Nat) (VM4 : Nat) (x3 : Int32) (VM2 : Nat) (LM1 : Nat → Int64) (LM9 : Nat → Int64) (x1 : Int64) (LM3 : Nat → Int64) (LM12 : Nat → Int64) (k_153 : (Int64) → (Nat) → Int64 × (Nat)) (rec_153 : (Int64) → (Nat) → Int64 × (Nat)) (x4_153 : Int64) (x6_153 : Nat) : Int64 × (Nat) :=
  if (VM1 + VM4) ≤ x6_153 then (k_153 x4_153 x6_153) else (if x3 ≤ (nI 1) then (k_153 x4_153 x6_153) else (f_Model_mass_h175 VM2 VM1 LM1 LM9 x6_153 x1 LM3 x3 LM12 (f_Model_mass_x175 rec_153 x6_153) 9 x4_153 0))
def f_Model_mass_h153 (VM1 : Nat) (VM4 : Nat) (x3 : Int32) (VM2 : Nat) (LM1 : Nat → Int64) (LM9 : Nat → Int64) (x1 : Int64) (LM3 : Nat → Int64) (LM12 : Nat → Int64) (k_153 : (Int64) → (Nat) → Int64 × (Nat)) : Nat → (Int64) → (Nat) → Int64 × (Nat)
  | 0, x4_153, x6_153 => k_153 x4_153 x6_153
  | n + 1, x4_153, x6_153 => f_Model_mass_h153B VM1 VM4 x3 VM2 LM1 LM9 x1 LM3 LM12 k_153 (fun x4_153 x6_153 => f_Model_mass_h153 VM1 VM4 x3 VM2 LM1 LM9 x1 LM3 LM12 k_153 n x4_153 x6_153) x4_153 x6_153
def f_Model_mass_x153  (x4_153 : Int64) (x6_153 : Nat) : Int64 × (Nat) :=
  (x4_153, 0)
def f_Model_mass_h101B (VM2 : Nat) (x3 : Int32) (x1 : Int64) (LM3 : Nat → Int64) (LM2 : Nat → Int64) (k_101 : (Int64) → (Nat) → Int64 × (Nat)) (rec_101 : (Int64) → (Nat) → Int64 × (Nat)) (x4_101 : Int64) (x6_101 : Nat) : Int64 × (Nat) :=
  if VM2 ≤ x6_101 then (k_101 x4_101 x6_101) else (if x3 = (nI 1) then (if x1 < (LM3 x6_101) then (rec_101 x4_101 (x6_101 + 1)) else (rec_101 (x4_101 + (LM2 x6_101)) (x6_101 + 1))) else (k_101 x4_101 x6_101))
def f_Model_mass_h101 (VM2 : Nat) (x3 : Int32) (x1 : Int64) (LM3 : Nat → Int64) (LM2 : Nat → Int64) (k_101 : (Int64) → (Nat) → Int64 × (Nat)) : Nat → (Int64) → (Nat) → Int64 × (Nat)
  | 0, x4_101, x6_101 => k_101 x4_101 x6_101
  | n + 1, x4_101, x6_101 => f_Model_mass_h101B VM2 x3 x1 LM3 LM2 k_101 (fun x4_101 x6_101 => f_Model_mass_h101 VM2 x3 x1 LM3 LM2 k_101 n x4_101 x6_101) x4_101 x6_101
def f_Model_mass_x101 (VM1 : Nat) (VM4 : Nat) (x3 : Int32) (VM2 : Nat) (LM1 : Nat → Int64) (LM9 : Nat → Int64) (x1 : Int64) (LM3 : Nat → Int64) (LM12 : Nat → Int64) (x4_101 : Int64) (x6_101 : Nat) : Int64 × (Nat) :=
  f_Model_mass_h153 VM1 VM4 x3 VM2 LM1 LM9 x1 LM3 LM12 f_Model_mass_x153 13 x4_101 0
def f_Model_mass_h51B (VM1 : Nat) (x3 : Int32) (x1 : Int64) (LM1 : Nat → Int64) (NM0 : Nat → Nat) (LM0 : Nat → Int64) (LM4 : Nat → Int64) (LM5 : Nat → Int64) (k_51 : (Int64) → (Nat) → Int64 × (Nat)) (rec_51 : (Int64) → (Nat) → Int64 × (Nat)) (x4_51 : Int64) (x6_51 : Nat) : Int64 × (Nat) :=
  if VM1 ≤ x6_51 then (k_51 x4_51 x6_51) else (if x3 = 0 then (if x1 < (LM1 x6_51) then (rec_51 x4_51 (x6_51 + 1)) else (hh_bind (f_Model_gives NM0 LM0 LM4 LM5 x6_51) (fun y81 => rec_51 (x4_51 + y81) (x6_51 + 1)))) else (k_51 x4_51 x6_51))
def f_Model_mass_h51 (VM1 : Nat) (x3 : Int32) (x1 : Int64) (LM1 : Nat → Int64) (NM0 : Nat → Nat) (LM0 : Nat → Int64) (LM4 : Nat → Int64) (LM5 : Nat → Int64) (k_51 : (Int64) → (Nat) → Int64 × (Nat)) : Nat → (Int64) → (Nat) → Int64 × (Nat)
  | 0, x4_51, x6_51 => k_51 x4_51 x6_51
  | n + 1, x4_51, x6_51 => f_Model_mass_h51B VM1 x3 x1 LM1 NM0 LM0 LM4 LM5 k_51 (fun x4_51 x6_51 => f_Model_mass_h51 VM1 x3 x1 LM1 NM0 LM0 LM4 LM5 k_51 n x4_51 x6_51) x4_51 x6_51
def f_Model_mass_x51 (VM2 : Nat) (x3 : Int32) (x1 : Int64) (LM3 : Nat → Int64) (LM2 : Nat → Int64) (VM1 : Nat) (VM4 : Nat) (LM1 : Nat → Int64) (LM9 : Nat → Int64) (LM12 : Nat → Int64) (x4_51 : Int64) (x6_51 : Nat) : Int64 × (Nat) :=
  f_Model_mass_h101 VM2 x3 x1 LM3 LM2 (f_Model_mass_x101 VM1 VM4 x3 VM2 LM1 LM9 x1 LM3 LM12) 9 x4_51 0
def f_Model_mass (VM1 : Nat) (VM2 : Nat) (VM4 : Nat) (VM5 : Nat) (NM0 : Nat → Nat) (LM0 : Nat → Int64) (LM1 : Nat → Int64) (LM2 : Nat → Int64) (LM3 : Nat → Int64) (LM4 : Nat → Int64) (LM5 : Nat → Int64) (LM9 : Nat → Int64) (LM12 : Nat → Int64) (x1 : Int64) (x3 : Int32) : Int64 × (Nat) :=
  hh_bind (f_Model_isIn x1 0 100000) (fun y10 => if y10 = 0 then ((-1), 0) else (hh_bind (f_Model_isIn x3.toInt64 0 3) (fun y22 => if y22 = 0 then ((-1), 0) else (if x3 ≤ (nI 1) then (f_Model_mass_h51 VM1 x3 x1 LM1 NM0 LM0 LM4 LM5 (f_Model_mass_x51 VM2 x3 x1 LM3 LM2 VM1 VM4 LM1 LM9 LM12) 9 0 0) else (if VM5 = 1 then (f_Model_mass_h51 VM1 x3 x1 LM1 NM0 LM0 LM4 LM5 (f_Model_mass_x51 VM2 x3 x1 LM3 LM2 VM1 VM4 LM1 LM9 LM12) 9 0 0) else ((-1), 0))))))
set_option maxHeartbeats 4000000 in
set_option maxRecDepth 100000 in
theorem c_Model_mass (l : Launch) (dC : Nat → ClassId) (dI : Nat → Nat → Nat) (cI cJ cZ : ClassId) (sz : Nat) (aM : Nat → Nat) (VM0 : Nat) (VM1 : Nat) (VM2 : Nat) (VM3 : Nat) (VM4 : Nat) (VM5 : Nat) (WM0 : Int64) (NM0 : Nat → Nat) (NM1 : Nat → Nat) (NM2 : Nat → Nat) (LM0 : Nat → Int64) (LM1 : Nat → Int64) (LM2 : Nat → Int64) (LM3 : Nat → Int64) (LM4 : Nat → Int64) (LM5 : Nat → Int64) (LM6 : Nat → Int64) (LM7 : Nat → Int64) (LM8 : Nat → Int64) (LM9 : Nat → Int64) (LM10 : Nat → Int64) (LM11 : Nat → Int64) (LM12 : Nat → Int64) (LM13 : Nat → Int64) (LM14 : Nat → Int64) (LM15 : Nat → Int64) (IM0 : Nat → Int32) (IM1 : Nat → Int32) (IM2 : Nat → Int32) (IM3 : Nat → Int32) (x1 : Int64) (x3 : Int32) (m1 : VM1 ≤ 8) (m2 : VM2 ≤ 8) (m3 : VM3 ≤ 6) (m4 : VM4 ≤ 4) (mk4 : ∀ i, NM0 i < 4) (mcw : ∀ i, NM1 i < 12) (mfw : ∀ i, NM2 i < 12) (msb : ∀ i, i < 4 → ¬ LM5 i = 0) (m5 : VM5 ≤ 2) : hh_Cl l y_Model_mass u_Model_mass ({ frames := 1, cells := 0, slots := 0, locals := 25 }) (dC, dI) vwCl [(cI, .int), (cJ, .long), (cZ, .boolean)] (w_M cI cJ cZ aM VM0 VM1 VM2 VM3 VM4 VM5 WM0 NM0 NM1 NM2 LM0 LM1 LM2 LM3 LM4 LM5 LM6 LM7 LM8 LM9 LM10 LM11 LM12 LM13 LM14 LM15 IM0 IM1 IM2 IM3) sz [.ref (aM 0), .long x1, .int x3] ((f_Model_mass VM1 VM2 VM4 VM5 NM0 LM0 LM1 LM2 LM3 LM4 LM5 LM9 LM12 x1 x3).1) (w_M cI cJ cZ aM ((f_Model_mass VM1 VM2 VM4 VM5 NM0 LM0 LM1 LM2 LM3 LM4 LM5 LM9 LM12 x1 x3).2) VM1 VM2 VM3 VM4 VM5 WM0 NM0 NM1 NM2 LM0 LM1 LM2 LM3 LM4 LM5 LM6 LM7 LM8 LM9 LM10 LM11 LM12 LM13 LM14 LM15 IM0 IM1 IM2 IM3) 0 0 := by
  unfold hh_Cl
  refine Met.ofW (cc := b_Model_mass) (maxL := 10) (ret := (some .long)) (by decide) rfl ?_
  intro p e s m args below meth c s₁ B hml hv
  obtain ⟨rfl, hsz, hP, hK, hD0⟩ := hv
  have hx := B.exec
  have hb := B.bytes
  have hr := B.returns
  have hts := atoms_spec (ws := u_Model_mass) B.pre
  have hG : ∀ w ∈ wG, w.before ([.ref (aM 0), .long x1, .int x3]).toArray s = true := fun w h => hts w (List.mem_cons_of_mem _ h)
  have hown : s.vm.findClass R_Model = some m.cls := findClass_of_methodNamed B.named
  have hlocks := B.notSynchronized
  subst hsz
  have hD := hD0.self (sz := s.heap.size)
  generalize hAe : va_A (w_M cI cJ cZ aM VM0 VM1 VM2 VM3 VM4 VM5 WM0 NM0 NM1 NM2 LM0 LM1 LM2 LM3 LM4 LM5 LM6 LM7 LM8 LM9 LM10 LM11 LM12 LM13 LM14 LM15 IM0 IM1 IM2 IM3) s.heap.size = A at hD ⊢
  have hA : ∀ q : Nat, s.heap.size ≤ q → A q := fun q h => by rw [← hAe]; exact Or.inr h
  have hS : va_S A s.heap s.heap [] := va_S.rf
  have hl := lv_entry ([.ref (aM 0), .long x1, .int x3]) (n := 10) (Nat.le_of_ble_eq_true rfl)
  rw [lg_entry_eq]
  generalize (lg_sl ([.ref (aM 0), .long x1, .int x3]) ++ List.replicate (10 - (lg_sl ([.ref (aM 0), .long x1, .int x3])).length) Slot.unset).toArray = ls at hl ⊢
  have hl : lv_has ls 10 [(0, .ref (aM 0)), (1, .long x1), (3, .int x3)] := hl
  generalize hR : f_Model_mass VM1 VM2 VM4 VM5 NM0 LM0 LM1 LM2 LM3 LM4 LM5 LM9 LM12 x1 x3 = r0
  obtain ⟨H, locs, hHe, hle⟩ : ∃ (H : Heap) (locs : List Loc), s.heap = H ∧ [] = locs := ⟨_, _, rfl, rfl⟩
  have hP : va_P (dC, dI) vwCl (w_M cI cJ cZ aM VM0 VM1 VM2 VM3 VM4 VM5 WM0 NM0 NM1 NM2 LM0 LM1 LM2 LM3 LM4 LM5 LM6 LM7 LM8 LM9 LM10 LM11 LM12 LM13 LM14 LM15 IM0 IM1 IM2 IM3) H := by rw [← hHe]; exact hP
  have hS : va_S A s.heap H locs := by rw [← hHe, ← hle]; exact hS
  refine hw_start hHe hle ?_
  unfold f_Model_mass at hR
  refine lv_aload_n hx hb d_Model_mass_0 rfl (lv_at hl 0 rfl) ?_
  refine lv_iconst (v := nI 0) hx hb d_Model_mass_1 (by decide) ?_
  refine va_put (D := (dC, dI)) (ci := 5) (v := .int (nI 0)) (ty := .int) (C := R_Model) (T := T_Model) (N := 30) hx hb hG in_Model ty_Model tok_Model nok_Model hown hK hP hD hS 0 rfl rfl 0 (by decide) (hG _ m_614) (fun _ h9 => h9) rfl (by decide +kernel) rfl rfl (Nat.le_of_ble_eq_true rfl) d_Model_mass_2 (fun H locs hP hD hS => ?_)
  have hP : va_P (dC, dI) vwCl (w_M cI cJ cZ aM 0 VM1 VM2 VM3 VM4 VM5 WM0 NM0 NM1 NM2 LM0 LM1 LM2 LM3 LM4 LM5 LM6 LM7 LM8 LM9 LM10 LM11 LM12 LM13 LM14 LM15 IM0 IM1 IM2 IM3) H := hP
  have hD : va_D A (w_M cI cJ cZ aM 0 VM1 VM2 VM3 VM4 VM5 WM0 NM0 NM1 NM2 LM0 LM1 LM2 LM3 LM4 LM5 LM6 LM7 LM8 LM9 LM10 LM11 LM12 LM13 LM14 LM15 IM0 IM1 IM2 IM3) := hD
  refine lv_lload_n hx hb d_Model_mass_5 rfl (lv_at hl 1 rfl) ?_
  refine lv_lconst (v := 0) hx hb d_Model_mass_6 (by decide) ?_
  refine lv_ldc2 (v := 100000) hx hb hown (hG _ m_719) d_Model_mass_7 ?_
  obtain ⟨y10, hy10, hR⟩ := hw_bind hR
  have hM := c_Model_isIn l dC dI cI cJ cZ H.size x1 0 100000
  rw [hy10] at hM
  refine hw_callSi (As := [.long x1, .long 0, .long 100000]) (rest := []) (wr := w_M cI cJ cZ aM 0 VM1 VM2 VM3 VM4 VM5 WM0 NM0 NM1 NM2 LM0 LM1 LM2 LM3 LM4 LM5 LM6 LM7 LM8 LM9 LM10 LM11 LM12 LM13 LM14 LM15 IM0 IM1 IM2 IM3) ⟨hx, hb, hml, hown, hG⟩ hM (hw_cwS 3 hG m_714 m_715 m_7 m_716 rfl rfl (by decide +kernel) ⟨Nat.le_of_ble_eq_true rfl, Nat.le_of_ble_eq_true rfl⟩) hK hP hD hS hA [] [0, 1, 2, 3, 4, 5, 6, 7, 8, 9, 10, 11, 12, 13, 14, 15, 16, 17, 18, 19, 20, 21, 22, 23] rfl rfl (by decide) (by decide) (by decide) rfl hl.1 rfl (Nat.le_of_ble_eq_true rfl) d_Model_mass_10 ⟨Nat.le_of_ble_eq_true rfl, Nat.le_of_ble_eq_true rfl⟩ (fun H locs hP hD hS => ?_)
  have hP : va_P (dC, dI) vwCl (w_M cI cJ cZ aM 0 VM1 VM2 VM3 VM4 VM5 WM0 NM0 NM1 NM2 LM0 LM1 LM2 LM3 LM4 LM5 LM6 LM7 LM8 LM9 LM10 LM11 LM12 LM13 LM14 LM15 IM0 IM1 IM2 IM3) H := hP
  have hD : va_D A (w_M cI cJ cZ aM 0 VM1 VM2 VM3 VM4 VM5 WM0 NM0 NM1 NM2 LM0 LM1 LM2 LM3 LM4 LM5 LM6 LM7 LM8 LM9 LM10 LM11 LM12 LM13 LM14 LM15 IM0 IM1 IM2 IM3) := hD
  refine lv_if_eq (tgt := 41) hx hb d_Model_mass_13 (by decide) (fun c13 => ?_) (fun c13 => ?_)
  · replace hR := (if_pos c13).symm.trans hR
    refine lv_ldc2 (v := (-1)) hx hb hown (hG _ m_806) d_Model_mass_41 ?_
    subst hR
    exact W.lret (v := (-1)) hx hb hr (fun t ht hW => ⟨⟨_, (), rfl, rfl, by rw [ht]; exact hP, va_K.moved hW.alike hK, hD⟩, hS.F ht⟩) hS.2.2 d_Model_mass_44
  · replace hR := (if_neg c13).symm.trans hR
    refine lv_iload_n hx hb d_Model_mass_16 rfl (lv_at hl 2 rfl) ?_
    refine lv_i2l (v := x3.toInt64) hx hb d_Model_mass_17 rfl ?_
    refine lv_lconst (v := 0) hx hb d_Model_mass_18 (by decide) ?_
    refine lv_ldc2 (v := 3) hx hb hown (hG _ m_717) d_Model_mass_19 ?_
    obtain ⟨y22, hy22, hR⟩ := hw_bind hR
    have hM := c_Model_isIn l dC dI cI cJ cZ H.size x3.toInt64 0 3
    rw [hy22] at hM
    refine hw_callSi (As := [.long x3.toInt64, .long 0, .long 3]) (rest := []) (wr := w_M cI cJ cZ aM 0 VM1 VM2 VM3 VM4 VM5 WM0 NM0 NM1 NM2 LM0 LM1 LM2 LM3 LM4 LM5 LM6 LM7 LM8 LM9 LM10 LM11 LM12 LM13 LM14 LM15 IM0 IM1 IM2 IM3) ⟨hx, hb, hml, hown, hG⟩ hM (hw_cwS 3 hG m_714 m_715 m_7 m_716 rfl rfl (by decide +kernel) ⟨Nat.le_of_ble_eq_true rfl, Nat.le_of_ble_eq_true rfl⟩) hK hP hD hS hA [] [0, 1, 2, 3, 4, 5, 6, 7, 8, 9, 10, 11, 12, 13, 14, 15, 16, 17, 18, 19, 20, 21, 22, 23] rfl rfl (by decide) (by decide) (by decide) rfl hl.1 rfl (Nat.le_of_ble_eq_true rfl) d_Model_mass_22 ⟨Nat.le_of_ble_eq_true rfl, Nat.le_of_ble_eq_true rfl⟩ (fun H locs hP hD hS => ?_)
    have hP : va_P (dC, dI) vwCl (w_M cI cJ cZ aM 0 VM1 VM2 VM3 VM4 VM5 WM0 NM0 NM1 NM2 LM0 LM1 LM2 LM3 LM4 LM5 LM6 LM7 LM8 LM9 LM10 LM11 LM12 LM13 LM14 LM15 IM0 IM1 IM2 IM3) H := hP
    have hD : va_D A (w_M cI cJ cZ aM 0 VM1 VM2 VM3 VM4 VM5 WM0 NM0 NM1 NM2 LM0 LM1 LM2 LM3 LM4 LM5 LM6 LM7 LM8 LM9 LM10 LM11 LM12 LM13 LM14 LM15 IM0 IM1 IM2 IM3) := hD
    have hbl22 := hm_in (x := x3) (n := 4) (hi := 3) (by decide)
    rw [hy22] at hbl22
    refine lv_if_eq (tgt := 41) hx hb d_Model_mass_25 (by decide) (fun c25 => ?_) (fun c25 => ?_)
    · replace hR := (if_pos c25).symm.trans hR
      refine lv_ldc2 (v := (-1)) hx hb hown (hG _ m_806) d_Model_mass_41 ?_
      subst hR
      exact W.lret (v := (-1)) hx hb hr (fun t ht hW => ⟨⟨_, (), rfl, rfl, by rw [ht]; exact hP, va_K.moved hW.alike hK, hD⟩, hS.F ht⟩) hS.2.2 d_Model_mass_44
    · replace hR := (if_neg c25).symm.trans hR
      refine lv_iload_n hx hb d_Model_mass_28 rfl (lv_at hl 2 rfl) ?_
      refine lv_iconst (v := nI 1) hx hb d_Model_mass_29 (by decide) ?_
      refine lv_icmp_le (tgt := 45) hx hb d_Model_mass_30 (by decide) (fun c30 => ?_) (fun c30 => ?_)
      · replace hR := (if_pos c30).symm.trans hR
        refine lv_lconst (v := 0) hx hb d_Model_mass_45 (by decide) ?_
        refine lv_lstore (lv' := [(4, .long 0), (0, .ref (aM 0)), (1, .long x1), (3, .int x3)]) hx hb d_Model_mass_46 hl (by decide) rfl (fun ls hl => ?_)
        refine lv_iconst (v := nI 0) hx hb d_Model_mass_48 (by decide) ?_
        refine lv_istore (lv' := [(6, .int (nI 0)), (4, .long 0), (0, .ref (aM 0)), (1, .long x1), (3, .int x3)]) hx hb d_Model_mass_49 hl (by decide) rfl (fun ls hl => ?_)
        obtain ⟨k_51, hk_51, hR⟩ : ∃ k, (f_Model_mass_x51 VM2 x3 x1 LM3 LM2 VM1 VM4 LM1 LM9 LM12) = k ∧ f_Model_mass_h51 VM1 x3 x1 LM1 NM0 LM0 LM4 LM5 k 9 0 0 = r0 := ⟨_, rfl, hR⟩
        have X_51 : ∀ (x4_51 : Int64) (x6_51 : Nat) (hi : x6_51 ≤ VM1) (H : Heap) (locs : List Loc) (hP : va_P (dC, dI) vwCl (w_M cI cJ cZ aM 0 VM1 VM2 VM3 VM4 VM5 WM0 NM0 NM1 NM2 LM0 LM1 LM2 LM3 LM4 LM5 LM6 LM7 LM8 LM9 LM10 LM11 LM12 LM13 LM14 LM15 IM0 IM1 IM2 IM3) H) (hD : va_D A (w_M cI cJ cZ aM 0 VM1 VM2 VM3 VM4 VM5 WM0 NM0 NM1 NM2 LM0 LM1 LM2 LM3 LM4 LM5 LM6 LM7 LM8 LM9 LM10 LM11 LM12 LM13 LM14 LM15 IM0 IM1 IM2 IM3)) (hS : va_S A s.heap H locs) (ls : Array Slot) (hl : lv_has ls 10 [(0, .ref (aM 0)), (1, .long x1), (3, .int x3), (4, .long x4_51), (6, .int (nI x6_51))]) (hR : k_51 x4_51 x6_51 = r0), W p l e (headSpec u_Model_mass ({ frames := 1, cells := 0, slots := 0, locals := 25 })).room s m ([.ref (aM 0), .long x1, .int x3]).toArray below meth c H locs 0 0 (hh_Zl below (dC, dI) vwCl [(cI, .int), (cJ, .long), (cZ, .boolean)] A r0.1 (w_M cI cJ cZ aM r0.2 VM1 VM2 VM3 VM4 VM5 WM0 NM0 NM1 NM2 LM0 LM1 LM2 LM3 LM4 LM5 LM6 LM7 LM8 LM9 LM10 LM11 LM12 LM13 LM14 LM15 IM0 IM1 IM2 IM3) ([.ref (aM 0), .long x1, .int x3]).toArray s) (F0 m 98 ls []) := by
          intro x4_51 x6_51 hi H locs hP hD hS ls hl hR
          rw [← hk_51] at hR
          unfold f_Model_mass_x51 at hR
          refine lv_iconst (v := nI 0) hx hb d_Model_mass_98 (by decide) ?_
          refine lv_istore (lv' := [(6, .int (nI 0)), (0, .ref (aM 0)), (1, .long x1), (3, .int x3), (4, .long x4_51)]) hx hb d_Model_mass_99 hl (by decide) rfl (fun ls hl => ?_)
          obtain ⟨k_101, hk_101, hR⟩ : ∃ k, (f_Model_mass_x101 VM1 VM4 x3 VM2 LM1 LM9 x1 LM3 LM12) = k ∧ f_Model_mass_h101 VM2 x3 x1 LM3 LM2 k 9 x4_51 0 = r0 := ⟨_, rfl, hR⟩
          have X_101 : ∀ (x4_101 : Int64) (x6_101 : Nat) (hi : x6_101 ≤ VM2) (H : Heap) (locs : List Loc) (hP : va_P (dC, dI) vwCl (w_M cI cJ cZ aM 0 VM1 VM2 VM3 VM4 VM5 WM0 NM0 NM1 NM2 LM0 LM1 LM2 LM3 LM4 LM5 LM6 LM7 LM8 LM9 LM10 LM11 LM12 LM13 LM14 LM15 IM0 IM1 IM2 IM3) H) (hD : va_D A (w_M cI cJ cZ aM 0 VM1 VM2 VM3 VM4 VM5 WM0 NM0 NM1 NM2 LM0 LM1 LM2 LM3 LM4 LM5 LM6 LM7 LM8 LM9 LM10 LM11 LM12 LM13 LM14 LM15 IM0 IM1 IM2 IM3)) (hS : va_S A s.heap H locs) (ls : Array Slot) (hl : lv_has ls 10 [(0, .ref (aM 0)), (1, .long x1), (3, .int x3), (4, .long x4_101), (6, .int (nI x6_101))]) (hR : k_101 x4_101 x6_101 = r0), W p l e (headSpec u_Model_mass ({ frames := 1, cells := 0, slots := 0, locals := 25 })).room s m ([.ref (aM 0), .long x1, .int x3]).toArray below meth c H locs 0 0 (hh_Zl below (dC, dI) vwCl [(cI, .int), (cJ, .long), (cZ, .boolean)] A r0.1 (w_M cI cJ cZ aM r0.2 VM1 VM2 VM3 VM4 VM5 WM0 NM0 NM1 NM2 LM0 LM1 LM2 LM3 LM4 LM5 LM6 LM7 LM8 LM9 LM10 LM11 LM12 LM13 LM14 LM15 IM0 IM1 IM2 IM3) ([.ref (aM 0), .long x1, .int x3]).toArray s) (F0 m 150 ls []) := by
            intro x4_101 x6_101 hi H locs hP hD hS ls hl hR
            rw [← hk_101] at hR
            unfold f_Model_mass_x101 at hR
            refine lv_iconst (v := nI 0) hx hb d_Model_mass_150 (by decide) ?_
            refine lv_istore (lv' := [(6, .int (nI 0)), (0, .ref (aM 0)), (1, .long x1), (3, .int x3), (4, .long x4_101)]) hx hb d_Model_mass_151 hl (by decide) rfl (fun ls hl => ?_)
            obtain ⟨k_153, hk_153, hR⟩ : ∃ k, f_Model_mass_x153 = k ∧ f_Model_mass_h153 VM1 VM4 x3 VM2 LM1 LM9 x1 LM3 LM12 k 13 x4_101 0 = r0 := ⟨_, rfl, hR⟩
            have X_153 : ∀ (x4_153 : Int64) (x6_153 : Nat) (hi : x6_153 ≤ (VM1 + VM4)) (H : Heap) (locs : List Loc) (hP : va_P (dC, dI) vwCl (w_M cI cJ cZ aM 0 VM1 VM2 VM3 VM4 VM5 WM0 NM0 NM1 NM2 LM0 LM1 LM2 LM3 LM4 LM5 LM6 LM7 LM8 LM9 LM10 LM11 LM12 LM13 LM14 LM15 IM0 IM1 IM2 IM3) H) (hD : va_D A (w_M cI cJ cZ aM 0 VM1 VM2 VM3 VM4 VM5 WM0 NM0 NM1 NM2 LM0 LM1 LM2 LM3 LM4 LM5 LM6 LM7 LM8 LM9 LM10 LM11 LM12 LM13 LM14 LM15 IM0 IM1 IM2 IM3)) (hS : va_S A s.heap H locs) (ls : Array Slot) (hl : lv_has ls 10 [(0, .ref (aM 0)), (1, .long x1), (3, .int x3), (4, .long x4_153), (6, .int (nI x6_153))]) (hR : k_153 x4_153 x6_153 = r0), W p l e (headSpec u_Model_mass ({ frames := 1, cells := 0, slots := 0, locals := 25 })).room s m ([.ref (aM 0), .long x1, .int x3]).toArray below meth c H locs 0 0 (hh_Zl below (dC, dI) vwCl [(cI, .int), (cJ, .long), (cZ, .boolean)] A r0.1 (w_M cI cJ cZ aM r0.2 VM1 VM2 VM3 VM4 VM5 WM0 NM0 NM1 NM2 LM0 LM1 LM2 LM3 LM4 LM5 LM6 LM7 LM8 LM9 LM10 LM11 LM12 LM13 LM14 LM15 IM0 IM1 IM2 IM3) ([.ref (aM 0), .long x1, .int x3]).toArray s) (F0 m 278 ls []) := by
              intro x4_153 x6_153 hi H locs hP hD hS ls hl hR
              rw [← hk_153] at hR
              unfold f_Model_mass_x153 at hR
              refine lv_lload hx hb d_Model_mass_278 (lv_at hl 3 rfl) ?_
              subst hR
              exact W.lret (v := x4_153) hx hb hr (fun t ht hW => ⟨⟨_, (), rfl, rfl, by rw [ht]; exact hP, va_K.moved hW.alike hK, hD⟩, hS.F ht⟩) hS.2.2 d_Model_mass_280
            have L_153 : ∀ (n : Nat) (x4_153 : Int64) (x6_153 : Nat) (hi : x6_153 ≤ (VM1 + VM4)) (hfu : (VM1 + VM4) - x6_153 < n) (H : Heap) (locs : List Loc) (hP : va_P (dC, dI) vwCl (w_M cI cJ cZ aM 0 VM1 VM2 VM3 VM4 VM5 WM0 NM0 NM1 NM2 LM0 LM1 LM2 LM3 LM4 LM5 LM6 LM7 LM8 LM9 LM10 LM11 LM12 LM13 LM14 LM15 IM0 IM1 IM2 IM3) H) (hD : va_D A (w_M cI cJ cZ aM 0 VM1 VM2 VM3 VM4 VM5 WM0 NM0 NM1 NM2 LM0 LM1 LM2 LM3 LM4 LM5 LM6 LM7 LM8 LM9 LM10 LM11 LM12 LM13 LM14 LM15 IM0 IM1 IM2 IM3)) (hS : va_S A s.heap H locs) (ls : Array Slot) (hl : lv_has ls 10 [(0, .ref (aM 0)), (1, .long x1), (3, .int x3), (4, .long x4_153), (6, .int (nI x6_153))]) (hR : f_Model_mass_h153 VM1 VM4 x3 VM2 LM1 LM9 x1 LM3 LM12 k_153 n x4_153 x6_153 = r0), W p l e (headSpec u_Model_mass ({ frames := 1, cells := 0, slots := 0, locals := 25 })).room s m ([.ref (aM 0), .long x1, .int x3]).toArray below meth c H locs 0 0 (hh_Zl below (dC, dI) vwCl [(cI, .int), (cJ, .long), (cZ, .boolean)] A r0.1 (w_M cI cJ cZ aM r0.2 VM1 VM2 VM3 VM4 VM5 WM0 NM0 NM1 NM2 LM0 LM1 LM2 LM3 LM4 LM5 LM6 LM7 LM8 LM9 LM10 LM11 LM12 LM13 LM14 LM15 IM0 IM1 IM2 IM3) ([.ref (aM 0), .long x1, .int x3]).toArray s) (F0 m 153 ls []) := by
              intro n
              induction n with
              | zero =>
                intro x4_153 x6_153 hi hfu H locs hP hD hS ls hl hR
                exact absurd hfu (Nat.not_lt_zero _)
              | succ n ih_153 =>
                intro x4_153 x6_153 hi hfu H locs hP hD hS ls hl hR
                rw [f_Model_mass_h153] at hR
                obtain ⟨rec_153, hrec_153, hR⟩ : ∃ r, r = _ ∧ f_Model_mass_h153B VM1 VM4 x3 VM2 LM1 LM9 x1 LM3 LM12 k_153 r x4_153 x6_153 = r0 := ⟨_, rfl, hR⟩
                unfold f_Model_mass_h153B at hR
                refine lv_iload hx hb d_Model_mass_153 (lv_at hl 4 rfl) ?_
                refine lv_aload_n hx hb d_Model_mass_155 rfl (lv_at hl 0 rfl) ?_
                refine va_get (D := (dC, dI)) (ci := 5) (v := .int (nI VM1)) (C := R_Model) (T := T_Model) (N := 30) hx hb hG in_Model hown hK hP 0 rfl rfl 1 (by decide) (hG _ m_615) (fun _ h9 => h9) rfl d_Model_mass_156 ?_
                refine lv_aload_n hx hb d_Model_mass_159 rfl (lv_at hl 0 rfl) ?_
                refine va_get (D := (dC, dI)) (ci := 5) (v := .int (nI VM4)) (C := R_Model) (T := T_Model) (N := 30) hx hb hG in_Model hown hK hP 0 rfl rfl 18 (by decide) (hG _ m_632) (fun _ h9 => h9) rfl d_Model_mass_160 ?_
                refine hw_iadd hx hb d_Model_mass_163 ?_
                refine hw_icmp_ge (tgt := 278) hx hb d_Model_mass_164 (by decide) (by omega) (by omega) (fun c164 => ?_) (fun c164 => ?_)
                · replace hR := (if_pos c164).symm.trans hR
                  exact X_153 x4_153 x6_153 (by first | assumption | omega | exact hw_upb (by assumption) (by omega)) H locs hP hD hS ls (lv_sub hl [0, 1, 2, 3, 4] rfl) hR
                · replace hR := (if_neg c164).symm.trans hR
                  refine lv_iload_n hx hb d_Model_mass_167 rfl (lv_at hl 2 rfl) ?_
                  refine lv_iconst (v := nI 1) hx hb d_Model_mass_168 (by decide) ?_
                  refine lv_icmp_le (tgt := 278) hx hb d_Model_mass_169 (by decide) (fun c169 => ?_) (fun c169 => ?_)
                  · replace hR := (if_pos c169).symm.trans hR
                    exact X_153 x4_153 x6_153 (by first | assumption | omega | exact hw_upb (by assumption) (by omega)) H locs hP hD hS ls (lv_sub hl [0, 1, 2, 3, 4] rfl) hR
                  · replace hR := (if_neg c169).symm.trans hR
                    refine lv_iconst (v := nI 0) hx hb d_Model_mass_172 (by decide) ?_
                    refine lv_istore (lv' := [(7, .int (nI 0)), (0, .ref (aM 0)), (1, .long x1), (3, .int x3), (4, .long x4_153), (6, .int (nI x6_153))]) hx hb d_Model_mass_173 hl (by decide) rfl (fun ls hl => ?_)
                    obtain ⟨k_175, hk_175, hR⟩ : ∃ k, (f_Model_mass_x175 rec_153 x6_153) = k ∧ f_Model_mass_h175 VM2 VM1 LM1 LM9 x6_153 x1 LM3 x3 LM12 k 9 x4_153 0 = r0 := ⟨_, rfl, hR⟩
                    have X_175 : ∀ (x4_175 : Int64) (x7_175 : Nat) (hi : x7_175 ≤ VM2) (H : Heap) (locs : List Loc) (hP : va_P (dC, dI) vwCl (w_M cI cJ cZ aM 0 VM1 VM2 VM3 VM4 VM5 WM0 NM0 NM1 NM2 LM0 LM1 LM2 LM3 LM4 LM5 LM6 LM7 LM8 LM9 LM10 LM11 LM12 LM13 LM14 LM15 IM0 IM1 IM2 IM3) H) (hD : va_D A (w_M cI cJ cZ aM 0 VM1 VM2 VM3 VM4 VM5 WM0 NM0 NM1 NM2 LM0 LM1 LM2 LM3 LM4 LM5 LM6 LM7 LM8 LM9 LM10 LM11 LM12 LM13 LM14 LM15 IM0 IM1 IM2 IM3)) (hS : va_S A s.heap H locs) (ls : Array Slot) (hl : lv_has ls 10 [(0, .ref (aM 0)), (1, .long x1), (3, .int x3), (4, .long x4_175), (6, .int (nI x6_153)), (7, .int (nI x7_175))]) (hR : k_175 x4_175 x7_175 = r0), W p l e (headSpec u_Model_mass ({ frames := 1, cells := 0, slots := 0, locals := 25 })).room s m ([.ref (aM 0), .long x1, .int x3]).toArray below meth c H locs 0 0 (hh_Zl below (dC, dI) vwCl [(cI, .int), (cJ, .long), (cZ, .boolean)] A r0.1 (w_M cI cJ cZ aM r0.2 VM1 VM2 VM3 VM4 VM5 WM0 NM0 NM1 NM2 LM0 LM1 LM2 LM3 LM4 LM5 LM6 LM7 LM8 LM9 LM10 LM11 LM12 LM13 LM14 LM15 IM0 IM1 IM2 IM3) ([.ref (aM 0), .long x1, .int x3]).toArray s) (F0 m 272 ls []) := by
                      intro x4_175 x7_175 hi H locs hP hD hS ls hl hR
                      rw [← hk_175] at hR
                      unfold f_Model_mass_x175 at hR
                      refine lv_iinc (v := nI (x6_153 + 1)) (lv' := [(6, .int (nI (x6_153 + 1))), (0, .ref (aM 0)), (1, .long x1), (3, .int x3), (4, .long x4_175), (7, .int (nI x7_175))]) hx hb d_Model_mass_272 hl (k := 4) rfl (hw_inc _ 1) (by decide) rfl (fun ls hl => ?_)
                      refine lv_goto (tgt := 153) hx hb d_Model_mass_275 (by decide) ?_
                      rw [hrec_153] at hR
                      exact ih_153 x4_175 (x6_153 + 1) (by first | assumption | omega | exact hw_upb (by assumption) (by omega)) (by omega) H locs hP hD hS ls (lv_sub hl [1, 2, 3, 4, 0] rfl) hR
                    have L_175 : ∀ (n : Nat) (x4_175 : Int64) (x7_175 : Nat) (hi : x7_175 ≤ VM2) (hfu : VM2 - x7_175 < n) (H : Heap) (locs : List Loc) (hP : va_P (dC, dI) vwCl (w_M cI cJ cZ aM 0 VM1 VM2 VM3 VM4 VM5 WM0 NM0 NM1 NM2 LM0 LM1 LM2 LM3 LM4 LM5 LM6 LM7 LM8 LM9 LM10 LM11 LM12 LM13 LM14 LM15 IM0 IM1 IM2 IM3) H) (hD : va_D A (w_M cI cJ cZ aM 0 VM1 VM2 VM3 VM4 VM5 WM0 NM0 NM1 NM2 LM0 LM1 LM2 LM3 LM4 LM5 LM6 LM7 LM8 LM9 LM10 LM11 LM12 LM13 LM14 LM15 IM0 IM1 IM2 IM3)) (hS : va_S A s.heap H locs) (ls : Array Slot) (hl : lv_has ls 10 [(0, .ref (aM 0)), (1, .long x1), (3, .int x3), (4, .long x4_175), (6, .int (nI x6_153)), (7, .int (nI x7_175))]) (hR : f_Model_mass_h175 VM2 VM1 LM1 LM9 x6_153 x1 LM3 x3 LM12 k_175 n x4_175 x7_175 = r0), W p l e (headSpec u_Model_mass ({ frames := 1, cells := 0, slots := 0, locals := 25 })).room s m ([.ref (aM 0), .long x1, .int x3]).toArray below meth c H locs 0 0 (hh_Zl below (dC, dI) vwCl [(cI, .int), (cJ, .long), (cZ, .boolean)] A r0.1 (w_M cI cJ cZ aM r0.2 VM1 VM2 VM3 VM4 VM5 WM0 NM0 NM1 NM2 LM0 LM1 LM2 LM3 LM4 LM5 LM6 LM7 LM8 LM9 LM10 LM11 LM12 LM13 LM14 LM15 IM0 IM1 IM2 IM3) ([.ref (aM 0), .long x1, .int x3]).toArray s) (F0 m 175 ls []) := by
                      intro n
                      induction n with
                      | zero =>
                        intro x4_175 x7_175 hi hfu H locs hP hD hS ls hl hR
                        exact absurd hfu (Nat.not_lt_zero _)
                      | succ n ih_175 =>
                        intro x4_175 x7_175 hi hfu H locs hP hD hS ls hl hR
                        rw [f_Model_mass_h175] at hR
                        obtain ⟨rec_175, hrec_175, hR⟩ : ∃ r, r = _ ∧ f_Model_mass_h175B VM2 VM1 LM1 LM9 x6_153 x1 LM3 x3 LM12 k_175 r x4_175 x7_175 = r0 := ⟨_, rfl, hR⟩
                        unfold f_Model_mass_h175B at hR
                        refine lv_iload hx hb d_Model_mass_175 (lv_at hl 5 rfl) ?_
                        refine lv_aload_n hx hb d_Model_mass_177 rfl (lv_at hl 0 rfl) ?_
                        refine va_get (D := (dC, dI)) (ci := 5) (v := .int (nI VM2)) (C := R_Model) (T := T_Model) (N := 30) hx hb hG in_Model hown hK hP 0 rfl rfl 6 (by decide) (hG _ m_620) (fun _ h9 => h9) rfl d_Model_mass_178 ?_
                        refine hw_icmp_ge (tgt := 272) hx hb d_Model_mass_181 (by decide) (by omega) (by omega) (fun c181 => ?_) (fun c181 => ?_)
                        · replace hR := (if_pos c181).symm.trans hR
                          exact X_175 x4_175 x7_175 (by first | assumption | omega | exact hw_upb (by assumption) (by omega)) H locs hP hD hS ls (lv_sub hl [0, 1, 2, 3, 4, 5] rfl) hR
                        · replace hR := (if_neg c181).symm.trans hR
                          refine lv_aload_n hx hb d_Model_mass_184 rfl (lv_at hl 0 rfl) ?_
                          refine lv_iload hx hb d_Model_mass_185 (lv_at hl 4 rfl) ?_
                          obtain ⟨y187, hy187, hR⟩ := hw_bind hR
                          have hM := c_Model_metreOf l dC dI cI cJ cZ H.size aM 0 VM1 VM2 VM3 VM4 VM5 WM0 NM0 NM1 NM2 LM0 LM1 LM2 LM3 LM4 LM5 LM6 LM7 LM8 LM9 LM10 LM11 LM12 LM13 LM14 LM15 IM0 IM1 IM2 IM3 x6_153 (by first | assumption | omega) (by first | assumption | omega) (by first | assumption | omega)
                          rw [hy187] at hM
                          refine hw_callVl (As := [.int (nI x6_153)]) (rest := []) (wr := ([] : va_W)) ⟨hx, hb, hml, hown, hG⟩ hM (hw_cwV 1 hG m_770 m_772 mp_25 m_7 m_773 rfl rfl (by decide +kernel) ⟨Nat.le_of_ble_eq_true rfl, Nat.le_of_ble_eq_true rfl⟩) hK hP hD hS hA [0, 1, 2, 3, 4, 5, 6, 7, 8, 9, 10, 11, 12, 13, 14, 15, 16, 17, 18, 19, 20, 21, 22, 23] [] rfl rfl (by decide) (by decide) (by decide) (hw_recv hK hP 0 rfl rfl) rfl hl.1 rfl (Nat.le_of_ble_eq_true rfl) d_Model_mass_187 ⟨Nat.le_of_ble_eq_true rfl, Nat.le_of_ble_eq_true rfl⟩ (fun H locs hP hD hS => ?_)
                          have hP : va_P (dC, dI) vwCl (w_M cI cJ cZ aM 0 VM1 VM2 VM3 VM4 VM5 WM0 NM0 NM1 NM2 LM0 LM1 LM2 LM3 LM4 LM5 LM6 LM7 LM8 LM9 LM10 LM11 LM12 LM13 LM14 LM15 IM0 IM1 IM2 IM3) H := hP
                          have hD : va_D A (w_M cI cJ cZ aM 0 VM1 VM2 VM3 VM4 VM5 WM0 NM0 NM1 NM2 LM0 LM1 LM2 LM3 LM4 LM5 LM6 LM7 LM8 LM9 LM10 LM11 LM12 LM13 LM14 LM15 IM0 IM1 IM2 IM3) := hD
                          refine lv_lload_n hx hb d_Model_mass_190 rfl (lv_at hl 1 rfl) ?_
                          refine hw_lcmp_gt (tgt := 199) hx hb d_Model_mass_191 d_Model_mass_192 (by decide) (fun c191 => ?_) (fun c191 => ?_)
                          · replace hR := (if_pos c191).symm.trans hR
                            refine lv_iconst (v := nI 0) hx hb d_Model_mass_199 (by decide) ?_
                            refine lv_istore (lv' := [(8, .int (nI 0)), (0, .ref (aM 0)), (1, .long x1), (3, .int x3), (4, .long x4_175), (6, .int (nI x6_153)), (7, .int (nI x7_175))]) hx hb d_Model_mass_200 hl (by decide) rfl (fun ls hl => ?_)
                            refine lv_aload_n hx hb d_Model_mass_202 rfl (lv_at hl 1 rfl) ?_
                            refine va_get (D := (dC, dI)) (ci := 5) (v := .ref (aM 7)) (C := R_Model) (T := T_Model) (N := 30) hx hb hG in_Model hown hK hP 0 rfl rfl 9 (by decide) (hG _ m_623) (fun _ h9 => h9) rfl d_Model_mass_203 ?_
                            refine lv_iload hx hb d_Model_mass_206 (lv_at hl 6 rfl) ?_
                            refine hw_lald (f := LM3) hx hb hK hP 7 1 rfl rfl (by decide) (by omega) d_Model_mass_208 ?_
                            refine lv_lload_n hx hb d_Model_mass_209 rfl (lv_at hl 2 rfl) ?_
                            refine hw_lcmp_gt (tgt := 218) hx hb d_Model_mass_210 d_Model_mass_211 (by decide) (fun c210 => ?_) (fun c210 => ?_)
                            · replace hR := (if_pos c210).symm.trans hR
                              refine lv_iconst (v := nI 0) hx hb d_Model_mass_218 (by decide) ?_
                              refine lv_istore (lv' := [(9, .int (nI 0)), (8, .int (nI 0)), (0, .ref (aM 0)), (1, .long x1), (3, .int x3), (4, .long x4_175), (6, .int (nI x6_153)), (7, .int (nI x7_175))]) hx hb d_Model_mass_219 hl (by decide) rfl (fun ls hl => ?_)
                              refine lv_iload hx hb d_Model_mass_221 (lv_at hl 1 rfl) ?_
                              refine lv_iload hx hb d_Model_mass_223 (lv_at hl 0 rfl) ?_
                              refine hw_icmp_eq (tgt := 262) hx hb d_Model_mass_225 (by decide) (by omega) (by omega) (fun c225 => ?_) (fun c225 => ?_)
                              · replace hR := (if_pos c225).symm.trans hR
                                refine lv_lload hx hb d_Model_mass_262 (lv_at hl 5 rfl) ?_
                                refine lv_lstore (lv' := [(4, .long x4_175), (9, .int (nI 0)), (8, .int (nI 0)), (0, .ref (aM 0)), (1, .long x1), (3, .int x3), (6, .int (nI x6_153)), (7, .int (nI x7_175))]) hx hb d_Model_mass_264 hl (by decide) rfl (fun ls hl => ?_)
                                refine lv_iinc (v := nI (x7_175 + 1)) (lv' := [(7, .int (nI (x7_175 + 1))), (4, .long x4_175), (9, .int (nI 0)), (8, .int (nI 0)), (0, .ref (aM 0)), (1, .long x1), (3, .int x3), (6, .int (nI x6_153))]) hx hb d_Model_mass_266 hl (k := 7) rfl (hw_inc _ 1) (by decide) rfl (fun ls hl => ?_)
                                refine lv_goto (tgt := 175) hx hb d_Model_mass_269 (by decide) ?_
                                rw [hrec_175] at hR
                                exact ih_175 x4_175 (x7_175 + 1) (by first | assumption | omega | exact hw_upb (by assumption) (by omega)) (by omega) H locs hP hD hS ls (lv_sub hl [4, 5, 6, 1, 7, 0] rfl) hR
                              · replace hR := (if_neg c225).symm.trans hR
                                refine lv_iload hx hb d_Model_mass_228 (lv_at hl 1 rfl) ?_
                                refine lv_iload_n hx hb d_Model_mass_230 rfl (lv_at hl 4 rfl) ?_
                                refine lv_iconst (v := nI 2) hx hb d_Model_mass_231 (by decide) ?_
                                refine lv_icmp_ne (tgt := 239) hx hb d_Model_mass_232 (by decide) (fun c232 => ?_) (fun c232 => ?_)
                                · replace hR := (if_neg c232).symm.trans hR
                                  refine lv_iconst (v := nI 0) hx hb d_Model_mass_239 (by decide) ?_
                                  refine hw_icmp_ne (tgt := 262) hx hb d_Model_mass_240 (by decide) (by omega) (by omega) (fun c240 => ?_) (fun c240 => ?_)
                                  · replace hR := (if_neg c240).symm.trans hR
                                    refine lv_lload hx hb d_Model_mass_262 (lv_at hl 5 rfl) ?_
                                    refine lv_lstore (lv' := [(4, .long x4_175), (9, .int (nI 0)), (8, .int (nI 0)), (0, .ref (aM 0)), (1, .long x1), (3, .int x3), (6, .int (nI x6_153)), (7, .int (nI x7_175))]) hx hb d_Model_mass_264 hl (by decide) rfl (fun ls hl => ?_)
                                    refine lv_iinc (v := nI (x7_175 + 1)) (lv' := [(7, .int (nI (x7_175 + 1))), (4, .long x4_175), (9, .int (nI 0)), (8, .int (nI 0)), (0, .ref (aM 0)), (1, .long x1), (3, .int x3), (6, .int (nI x6_153))]) hx hb d_Model_mass_266 hl (k := 7) rfl (hw_inc _ 1) (by decide) rfl (fun ls hl => ?_)
                                    refine lv_goto (tgt := 175) hx hb d_Model_mass_269 (by decide) ?_
                                    rw [hrec_175] at hR
                                    exact ih_175 x4_175 (x7_175 + 1) (by first | assumption | omega | exact hw_upb (by assumption) (by omega)) (by omega) H locs hP hD hS ls (lv_sub hl [4, 5, 6, 1, 7, 0] rfl) hR
                                  · replace hR := (if_pos c240).symm.trans hR
                                    refine lv_lload hx hb d_Model_mass_243 (lv_at hl 5 rfl) ?_
                                    refine lv_aload_n hx hb d_Model_mass_245 rfl (lv_at hl 2 rfl) ?_
                                    refine va_get (D := (dC, dI)) (ci := 5) (v := .ref (aM 18)) (C := R_Model) (T := T_Model) (N := 30) hx hb hG in_Model hown hK hP 0 rfl rfl 23 (by decide) (hG _ m_637) (fun _ h9 => h9) rfl d_Model_mass_246 ?_
                                    refine lv_bipush (v := nI 8) hx hb d_Model_mass_249 (by decide) ?_
                                    refine lv_iload hx hb d_Model_mass_251 (lv_at hl 6 rfl) ?_
                                    refine hw_imul hx hb d_Model_mass_253 ?_
                                    refine lv_iload hx hb d_Model_mass_254 (lv_at hl 7 rfl) ?_
                                    refine hw_iadd hx hb d_Model_mass_256 ?_
                                    refine hw_lald (f := LM12) hx hb hK hP 18 1 rfl rfl (by decide) (by omega) d_Model_mass_257 ?_
                                    refine lv_ladd hx hb d_Model_mass_258 ?_
                                    refine lv_goto (tgt := 264) hx hb d_Model_mass_259 (by decide) ?_
                                    refine lv_lstore (lv' := [(4, .long (x4_175 + (LM12 ((8 * x6_153) + x7_175)))), (9, .int (nI 0)), (8, .int (nI 0)), (0, .ref (aM 0)), (1, .long x1), (3, .int x3), (6, .int (nI x6_153)), (7, .int (nI x7_175))]) hx hb d_Model_mass_264 hl (by decide) rfl (fun ls hl => ?_)
                                    refine lv_iinc (v := nI (x7_175 + 1)) (lv' := [(7, .int (nI (x7_175 + 1))), (4, .long (x4_175 + (LM12 ((8 * x6_153) + x7_175)))), (9, .int (nI 0)), (8, .int (nI 0)), (0, .ref (aM 0)), (1, .long x1), (3, .int x3), (6, .int (nI x6_153))]) hx hb d_Model_mass_266 hl (k := 7) rfl (hw_inc _ 1) (by decide) rfl (fun ls hl => ?_)
                                    refine lv_goto (tgt := 175) hx hb d_Model_mass_269 (by decide) ?_
                                    rw [hrec_175] at hR
                                    exact ih_175 (x4_175 + (LM12 ((8 * x6_153) + x7_175))) (x7_175 + 1) (by first | assumption | omega | exact hw_upb (by assumption) (by omega)) (by omega) H locs hP hD hS ls (lv_sub hl [4, 5, 6, 1, 7, 0] rfl) hR
                                · replace hR := (if_pos c232).symm.trans hR
                                  refine lv_iconst (v := nI 1) hx hb d_Model_mass_235 (by decide) ?_
                                  refine lv_goto (tgt := 240) hx hb d_Model_mass_236 (by decide) ?_
                                  refine hw_icmp_ne (tgt := 262) hx hb d_Model_mass_240 (by decide) (by omega) (by omega) (fun c240 => ?_) (fun c240 => ?_)
                                  · replace hR := (if_neg c240).symm.trans hR
                                    refine lv_lload hx hb d_Model_mass_262 (lv_at hl 5 rfl) ?_
                                    refine lv_lstore (lv' := [(4, .long x4_175), (9, .int (nI 0)), (8, .int (nI 0)), (0, .ref (aM 0)), (1, .long x1), (3, .int x3), (6, .int (nI x6_153)), (7, .int (nI x7_175))]) hx hb d_Model_mass_264 hl (by decide) rfl (fun ls hl => ?_)
                                    refine lv_iinc (v := nI (x7_175 + 1)) (lv' := [(7, .int (nI (x7_175 + 1))), (4, .long x4_175), (9, .int (nI 0)), (8, .int (nI 0)), (0, .ref (aM 0)), (1, .long x1), (3, .int x3), (6, .int (nI x6_153))]) hx hb d_Model_mass_266 hl (k := 7) rfl (hw_inc _ 1) (by decide) rfl (fun ls hl => ?_)
                                    refine lv_goto (tgt := 175) hx hb d_Model_mass_269 (by decide) ?_
                                    rw [hrec_175] at hR
                                    exact ih_175 x4_175 (x7_175 + 1) (by first | assumption | omega | exact hw_upb (by assumption) (by omega)) (by omega) H locs hP hD hS ls (lv_sub hl [4, 5, 6, 1, 7, 0] rfl) hR
                                  · replace hR := (if_pos c240).symm.trans hR
                                    refine lv_lload hx hb d_Model_mass_243 (lv_at hl 5 rfl) ?_
                                    refine lv_aload_n hx hb d_Model_mass_245 rfl (lv_at hl 2 rfl) ?_
                                    refine va_get (D := (dC, dI)) (ci := 5) (v := .ref (aM 18)) (C := R_Model) (T := T_Model) (N := 30) hx hb hG in_Model hown hK hP 0 rfl rfl 23 (by decide) (hG _ m_637) (fun _ h9 => h9) rfl d_Model_mass_246 ?_
                                    refine lv_bipush (v := nI 8) hx hb d_Model_mass_249 (by decide) ?_
                                    refine lv_iload hx hb d_Model_mass_251 (lv_at hl 6 rfl) ?_
                                    refine hw_imul hx hb d_Model_mass_253 ?_
                                    refine lv_iload hx hb d_Model_mass_254 (lv_at hl 7 rfl) ?_
                                    refine hw_iadd hx hb d_Model_mass_256 ?_
                                    refine hw_lald (f := LM12) hx hb hK hP 18 1 rfl rfl (by decide) (by omega) d_Model_mass_257 ?_
                                    refine lv_ladd hx hb d_Model_mass_258 ?_
                                    refine lv_goto (tgt := 264) hx hb d_Model_mass_259 (by decide) ?_
                                    refine lv_lstore (lv' := [(4, .long (x4_175 + (LM12 ((8 * x6_153) + x7_175)))), (9, .int (nI 0)), (8, .int (nI 0)), (0, .ref (aM 0)), (1, .long x1), (3, .int x3), (6, .int (nI x6_153)), (7, .int (nI x7_175))]) hx hb d_Model_mass_264 hl (by decide) rfl (fun ls hl => ?_)
                                    refine lv_iinc (v := nI (x7_175 + 1)) (lv' := [(7, .int (nI (x7_175 + 1))), (4, .long (x4_175 + (LM12 ((8 * x6_153) + x7_175)))), (9, .int (nI 0)), (8, .int (nI 0)), (0, .ref (aM 0)), (1, .long x1), (3, .int x3), (6, .int (nI x6_153))]) hx hb d_Model_mass_266 hl (k := 7) rfl (hw_inc _ 1) (by decide) rfl (fun ls hl => ?_)
                                    refine lv_goto (tgt := 175) hx hb d_Model_mass_269 (by decide) ?_
                                    rw [hrec_175] at hR
                                    exact ih_175 (x4_175 + (LM12 ((8 * x6_153) + x7_175))) (x7_175 + 1) (by first | assumption | omega | exact hw_upb (by assumption) (by omega)) (by omega) H locs hP hD hS ls (lv_sub hl [4, 5, 6, 1, 7, 0] rfl) hR
                            · replace hR := (if_neg c210).symm.trans hR
                              refine lv_iconst (v := nI 1) hx hb d_Model_mass_214 (by decide) ?_
                              refine lv_goto (tgt := 219) hx hb d_Model_mass_215 (by decide) ?_
                              refine lv_istore (lv' := [(9, .int (nI 1)), (8, .int (nI 0)), (0, .ref (aM 0)), (1, .long x1), (3, .int x3), (4, .long x4_175), (6, .int (nI x6_153)), (7, .int (nI x7_175))]) hx hb d_Model_mass_219 hl (by decide) rfl (fun ls hl => ?_)
                              refine lv_iload hx hb d_Model_mass_221 (lv_at hl 1 rfl) ?_
                              refine lv_iload hx hb d_Model_mass_223 (lv_at hl 0 rfl) ?_
                              refine hw_icmp_eq (tgt := 262) hx hb d_Model_mass_225 (by decide) (by omega) (by omega) (fun c225 => ?_) (fun c225 => ?_)
                              · replace hR := (if_pos c225).symm.trans hR
                                refine lv_lload hx hb d_Model_mass_262 (lv_at hl 5 rfl) ?_
                                refine lv_lstore (lv' := [(4, .long x4_175), (9, .int (nI 1)), (8, .int (nI 0)), (0, .ref (aM 0)), (1, .long x1), (3, .int x3), (6, .int (nI x6_153)), (7, .int (nI x7_175))]) hx hb d_Model_mass_264 hl (by decide) rfl (fun ls hl => ?_)
                                refine lv_iinc (v := nI (x7_175 + 1)) (lv' := [(7, .int (nI (x7_175 + 1))), (4, .long x4_175), (9, .int (nI 1)), (8, .int (nI 0)), (0, .ref (aM 0)), (1, .long x1), (3, .int x3), (6, .int (nI x6_153))]) hx hb d_Model_mass_266 hl (k := 7) rfl (hw_inc _ 1) (by decide) rfl (fun ls hl => ?_)
                                refine lv_goto (tgt := 175) hx hb d_Model_mass_269 (by decide) ?_
                                rw [hrec_175] at hR
                                exact ih_175 x4_175 (x7_175 + 1) (by first | assumption | omega | exact hw_upb (by assumption) (by omega)) (by omega) H locs hP hD hS ls (lv_sub hl [4, 5, 6, 1, 7, 0] rfl) hR
                              · replace hR := (if_neg c225).symm.trans hR
                                refine lv_iload hx hb d_Model_mass_228 (lv_at hl 1 rfl) ?_
                                refine lv_iload_n hx hb d_Model_mass_230 rfl (lv_at hl 4 rfl) ?_
                                refine lv_iconst (v := nI 2) hx hb d_Model_mass_231 (by decide) ?_
                                refine lv_icmp_ne (tgt := 239) hx hb d_Model_mass_232 (by decide) (fun c232 => ?_) (fun c232 => ?_)
                                · replace hR := (if_neg c232).symm.trans hR
                                  refine lv_iconst (v := nI 0) hx hb d_Model_mass_239 (by decide) ?_
                                  refine hw_icmp_ne (tgt := 262) hx hb d_Model_mass_240 (by decide) (by omega) (by omega) (fun c240 => ?_) (fun c240 => ?_)
                                  · replace hR := (if_neg c240).symm.trans hR
                                    refine lv_lload hx hb d_Model_mass_262 (lv_at hl 5 rfl) ?_
                                    refine lv_lstore (lv' := [(4, .long x4_175), (9, .int (nI 1)), (8, .int (nI 0)), (0, .ref (aM 0)), (1, .long x1), (3, .int x3), (6, .int (nI x6_153)), (7, .int (nI x7_175))]) hx hb d_Model_mass_264 hl (by decide) rfl (fun ls hl => ?_)
                                    refine lv_iinc (v := nI (x7_175 + 1)) (lv' := [(7, .int (nI (x7_175 + 1))), (4, .long x4_175), (9, .int (nI 1)), (8, .int (nI 0)), (0, .ref (aM 0)), (1, .long x1), (3, .int x3), (6, .int (nI x6_153))]) hx hb d_Model_mass_266 hl (k := 7) rfl (hw_inc _ 1) (by decide) rfl (fun ls hl => ?_)
                                    refine lv_goto (tgt := 175) hx hb d_Model_mass_269 (by decide) ?_
                                    rw [hrec_175] at hR
                                    exact ih_175 x4_175 (x7_175 + 1) (by first | assumption | omega | exact hw_upb (by assumption) (by omega)) (by omega) H locs hP hD hS ls (lv_sub hl [4, 5, 6, 1, 7, 0] rfl) hR
                                  · replace hR := (if_pos c240).symm.trans hR
                                    refine lv_lload hx hb d_Model_mass_243 (lv_at hl 5 rfl) ?_
                                    refine lv_aload_n hx hb d_Model_mass_245 rfl (lv_at hl 2 rfl) ?_
                                    refine va_get (D := (dC, dI)) (ci := 5) (v := .ref (aM 18)) (C := R_Model) (T := T_Model) (N := 30) hx hb hG in_Model hown hK hP 0 rfl rfl 23 (by decide) (hG _ m_637) (fun _ h9 => h9) rfl d_Model_mass_246 ?_
                                    refine lv_bipush (v := nI 8) hx hb d_Model_mass_249 (by decide) ?_
                                    refine lv_iload hx hb d_Model_mass_251 (lv_at hl 6 rfl) ?_
                                    refine hw_imul hx hb d_Model_mass_253 ?_
                                    refine lv_iload hx hb d_Model_mass_254 (lv_at hl 7 rfl) ?_
                                    refine hw_iadd hx hb d_Model_mass_256 ?_
                                    refine hw_lald (f := LM12) hx hb hK hP 18 1 rfl rfl (by decide) (by omega) d_Model_mass_257 ?_
                                    refine lv_ladd hx hb d_Model_mass_258 ?_
                                    refine lv_goto (tgt := 264) hx hb d_Model_mass_259 (by decide) ?_
                                    refine lv_lstore (lv' := [(4, .long (x4_175 + (LM12 ((8 * x6_153) + x7_175)))), (9, .int (nI 1)), (8, .int (nI 0)), (0, .ref (aM 0)), (1, .long x1), (3, .int x3), (6, .int (nI x6_153)), (7, .int (nI x7_175))]) hx hb d_Model_mass_264 hl (by decide) rfl (fun ls hl => ?_)
                                    refine lv_iinc (v := nI (x7_175 + 1)) (lv' := [(7, .int (nI (x7_175 + 1))), (4, .long (x4_175 + (LM12 ((8 * x6_153) + x7_175)))), (9, .int (nI 1)), (8, .int (nI 0)), (0, .ref (aM 0)), (1, .long x1), (3, .int x3), (6, .int (nI x6_153))]) hx hb d_Model_mass_266 hl (k := 7) rfl (hw_inc _ 1) (by decide) rfl (fun ls hl => ?_)
                                    refine lv_goto (tgt := 175) hx hb d_Model_mass_269 (by decide) ?_
                                    rw [hrec_175] at hR
                                    exact ih_175 (x4_175 + (LM12 ((8 * x6_153) + x7_175))) (x7_175 + 1) (by first | assumption | omega | exact hw_upb (by assumption) (by omega)) (by omega) H locs hP hD hS ls (lv_sub hl [4, 5, 6, 1, 7, 0] rfl) hR
                                · replace hR := (if_pos c232).symm.trans hR
                                  refine lv_iconst (v := nI 1) hx hb d_Model_mass_235 (by decide) ?_
                                  refine lv_goto (tgt := 240) hx hb d_Model_mass_236 (by decide) ?_
                                  refine hw_icmp_ne (tgt := 262) hx hb d_Model_mass_240 (by decide) (by omega) (by omega) (fun c240 => ?_) (fun c240 => ?_)
                                  · replace hR := (if_neg c240).symm.trans hR
                                    refine lv_lload hx hb d_Model_mass_262 (lv_at hl 5 rfl) ?_
                                    refine lv_lstore (lv' := [(4, .long x4_175), (9, .int (nI 1)), (8, .int (nI 0)), (0, .ref (aM 0)), (1, .long x1), (3, .int x3), (6, .int (nI x6_153)), (7, .int (nI x7_175))]) hx hb d_Model_mass_264 hl (by decide) rfl (fun ls hl => ?_)
                                    refine lv_iinc (v := nI (x7_175 + 1)) (lv' := [(7, .int (nI (x7_175 + 1))), (4, .long x4_175), (9, .int (nI 1)), (8, .int (nI 0)), (0, .ref (aM 0)), (1, .long x1), (3, .int x3), (6, .int (nI x6_153))]) hx hb d_Model_mass_266 hl (k := 7) rfl (hw_inc _ 1) (by decide) rfl (fun ls hl => ?_)
                                    refine lv_goto (tgt := 175) hx hb d_Model_mass_269 (by decide) ?_
                                    rw [hrec_175] at hR
                                    exact ih_175 x4_175 (x7_175 + 1) (by first | assumption | omega | exact hw_upb (by assumption) (by omega)) (by omega) H locs hP hD hS ls (lv_sub hl [4, 5, 6, 1, 7, 0] rfl) hR
                                  · replace hR := (if_pos c240).symm.trans hR
                                    refine lv_lload hx hb d_Model_mass_243 (lv_at hl 5 rfl) ?_
                                    refine lv_aload_n hx hb d_Model_mass_245 rfl (lv_at hl 2 rfl) ?_
                                    refine va_get (D := (dC, dI)) (ci := 5) (v := .ref (aM 18)) (C := R_Model) (T := T_Model) (N := 30) hx hb hG in_Model hown hK hP 0 rfl rfl 23 (by decide) (hG _ m_637) (fun _ h9 => h9) rfl d_Model_mass_246 ?_
                                    refine lv_bipush (v := nI 8) hx hb d_Model_mass_249 (by decide) ?_
                                    refine lv_iload hx hb d_Model_mass_251 (lv_at hl 6 rfl) ?_
                                    refine hw_imul hx hb d_Model_mass_253 ?_
                                    refine lv_iload hx hb d_Model_mass_254 (lv_at hl 7 rfl) ?_
                                    refine hw_iadd hx hb d_Model_mass_256 ?_
                                    refine hw_lald (f := LM12) hx hb hK hP 18 1 rfl rfl (by decide) (by omega) d_Model_mass_257 ?_
                                    refine lv_ladd hx hb d_Model_mass_258 ?_
                                    refine lv_goto (tgt := 264) hx hb d_Model_mass_259 (by decide) ?_
                                    refine lv_lstore (lv' := [(4, .long (x4_175 + (LM12 ((8 * x6_153) + x7_175)))), (9, .int (nI 1)), (8, .int (nI 0)), (0, .ref (aM 0)), (1, .long x1), (3, .int x3), (6, .int (nI x6_153)), (7, .int (nI x7_175))]) hx hb d_Model_mass_264 hl (by decide) rfl (fun ls hl => ?_)
                                    refine lv_iinc (v := nI (x7_175 + 1)) (lv' := [(7, .int (nI (x7_175 + 1))), (4, .long (x4_175 + (LM12 ((8 * x6_153) + x7_175)))), (9, .int (nI 1)), (8, .int (nI 0)), (0, .ref (aM 0)), (1, .long x1), (3, .int x3), (6, .int (nI x6_153))]) hx hb d_Model_mass_266 hl (k := 7) rfl (hw_inc _ 1) (by decide) rfl (fun ls hl => ?_)
                                    refine lv_goto (tgt := 175) hx hb d_Model_mass_269 (by decide) ?_
                                    rw [hrec_175] at hR
                                    exact ih_175 (x4_175 + (LM12 ((8 * x6_153) + x7_175))) (x7_175 + 1) (by first | assumption | omega | exact hw_upb (by assumption) (by omega)) (by omega) H locs hP hD hS ls (lv_sub hl [4, 5, 6, 1, 7, 0] rfl) hR
                          · replace hR := (if_neg c191).symm.trans hR
                            refine lv_iconst (v := nI 1) hx hb d_Model_mass_195 (by decide) ?_
                            refine lv_goto (tgt := 200) hx hb d_Model_mass_196 (by decide) ?_
                            refine lv_istore (lv' := [(8, .int (nI 1)), (0, .ref (aM 0)), (1, .long x1), (3, .int x3), (4, .long x4_175), (6, .int (nI x6_153)), (7, .int (nI x7_175))]) hx hb d_Model_mass_200 hl (by decide) rfl (fun ls hl => ?_)
                            refine lv_aload_n hx hb d_Model_mass_202 rfl (lv_at hl 1 rfl) ?_
                            refine va_get (D := (dC, dI)) (ci := 5) (v := .ref (aM 7)) (C := R_Model) (T := T_Model) (N := 30) hx hb hG in_Model hown hK hP 0 rfl rfl 9 (by decide) (hG _ m_623) (fun _ h9 => h9) rfl d_Model_mass_203 ?_
                            refine lv_iload hx hb d_Model_mass_206 (lv_at hl 6 rfl) ?_
                            refine hw_lald (f := LM3) hx hb hK hP 7 1 rfl rfl (by decide) (by omega) d_Model_mass_208 ?_
                            refine lv_lload_n hx hb d_Model_mass_209 rfl (lv_at hl 2 rfl) ?_
                            refine hw_lcmp_gt (tgt := 218) hx hb d_Model_mass_210 d_Model_mass_211 (by decide) (fun c210 => ?_) (fun c210 => ?_)
                            · replace hR := (if_pos c210).symm.trans hR
                              refine lv_iconst (v := nI 0) hx hb d_Model_mass_218 (by decide) ?_
                              refine lv_istore (lv' := [(9, .int (nI 0)), (8, .int (nI 1)), (0, .ref (aM 0)), (1, .long x1), (3, .int x3), (4, .long x4_175), (6, .int (nI x6_153)), (7, .int (nI x7_175))]) hx hb d_Model_mass_219 hl (by decide) rfl (fun ls hl => ?_)
                              refine lv_iload hx hb d_Model_mass_221 (lv_at hl 1 rfl) ?_
                              refine lv_iload hx hb d_Model_mass_223 (lv_at hl 0 rfl) ?_
                              refine hw_icmp_eq (tgt := 262) hx hb d_Model_mass_225 (by decide) (by omega) (by omega) (fun c225 => ?_) (fun c225 => ?_)
                              · replace hR := (if_pos c225).symm.trans hR
                                refine lv_lload hx hb d_Model_mass_262 (lv_at hl 5 rfl) ?_
                                refine lv_lstore (lv' := [(4, .long x4_175), (9, .int (nI 0)), (8, .int (nI 1)), (0, .ref (aM 0)), (1, .long x1), (3, .int x3), (6, .int (nI x6_153)), (7, .int (nI x7_175))]) hx hb d_Model_mass_264 hl (by decide) rfl (fun ls hl => ?_)
                                refine lv_iinc (v := nI (x7_175 + 1)) (lv' := [(7, .int (nI (x7_175 + 1))), (4, .long x4_175), (9, .int (nI 0)), (8, .int (nI 1)), (0, .ref (aM 0)), (1, .long x1), (3, .int x3), (6, .int (nI x6_153))]) hx hb d_Model_mass_266 hl (k := 7) rfl (hw_inc _ 1) (by decide) rfl (fun ls hl => ?_)
                                refine lv_goto (tgt := 175) hx hb d_Model_mass_269 (by decide) ?_
                                rw [hrec_175] at hR
                                exact ih_175 x4_175 (x7_175 + 1) (by first | assumption | omega | exact hw_upb (by assumption) (by omega)) (by omega) H locs hP hD hS ls (lv_sub hl [4, 5, 6, 1, 7, 0] rfl) hR
                              · replace hR := (if_neg c225).symm.trans hR
                                refine lv_iload hx hb d_Model_mass_228 (lv_at hl 1 rfl) ?_
                                refine lv_iload_n hx hb d_Model_mass_230 rfl (lv_at hl 4 rfl) ?_
                                refine lv_iconst (v := nI 2) hx hb d_Model_mass_231 (by decide) ?_
                                refine lv_icmp_ne (tgt := 239) hx hb d_Model_mass_232 (by decide) (fun c232 => ?_) (fun c232 => ?_)
                                · replace hR := (if_neg c232).symm.trans hR
                                  refine lv_iconst (v := nI 0) hx hb d_Model_mass_239 (by decide) ?_
                                  refine hw_icmp_ne (tgt := 262) hx hb d_Model_mass_240 (by decide) (by omega) (by omega) (fun c240 => ?_) (fun c240 => ?_)
                                  · replace hR := (if_neg c240).symm.trans hR
                                    refine lv_lload hx hb d_Model_mass_262 (lv_at hl 5 rfl) ?_
                                    refine lv_lstore (lv' := [(4, .long x4_175), (9, .int (nI 0)), (8, .int (nI 1)), (0, .ref (aM 0)), (1, .long x1), (3, .int x3), (6, .int (nI x6_153)), (7, .int (nI x7_175))]) hx hb d_Model_mass_264 hl (by decide) rfl (fun ls hl => ?_)
                                    refine lv_iinc (v := nI (x7_175 + 1)) (lv' := [(7, .int (nI (x7_175 + 1))), (4, .long x4_175), (9, .int (nI 0)), (8, .int (nI 1)), (0, .ref (aM 0)), (1, .long x1), (3, .int x3), (6, .int (nI x6_153))]) hx hb d_Model_mass_266 hl (k := 7) rfl (hw_inc _ 1) (by decide) rfl (fun ls hl => ?_)
                                    refine lv_goto (tgt := 175) hx hb d_Model_mass_269 (by decide) ?_
                                    rw [hrec_175] at hR
                                    exact ih_175 x4_175 (x7_175 + 1) (by first | assumption | omega | exact hw_upb (by assumption) (by omega)) (by omega) H locs hP hD hS ls (lv_sub hl [4, 5, 6, 1, 7, 0] rfl) hR
                                  · replace hR := (if_pos c240).symm.trans hR
                                    refine lv_lload hx hb d_Model_mass_243 (lv_at hl 5 rfl) ?_
                                    refine lv_aload_n hx hb d_Model_mass_245 rfl (lv_at hl 2 rfl) ?_
                                    refine va_get (D := (dC, dI)) (ci := 5) (v := .ref (aM 18)) (C := R_Model) (T := T_Model) (N := 30) hx hb hG in_Model hown hK hP 0 rfl rfl 23 (by decide) (hG _ m_637) (fun _ h9 => h9) rfl d_Model_mass_246 ?_
                                    refine lv_bipush (v := nI 8) hx hb d_Model_mass_249 (by decide) ?_
                                    refine lv_iload hx hb d_Model_mass_251 (lv_at hl 6 rfl) ?_
                                    refine hw_imul hx hb d_Model_mass_253 ?_
                                    refine lv_iload hx hb d_Model_mass_254 (lv_at hl 7 rfl) ?_
                                    refine hw_iadd hx hb d_Model_mass_256 ?_
                                    refine hw_lald (f := LM12) hx hb hK hP 18 1 rfl rfl (by decide) (by omega) d_Model_mass_257 ?_
                                    refine lv_ladd hx hb d_Model_mass_258 ?_
                                    refine lv_goto (tgt := 264) hx hb d_Model_mass_259 (by decide) ?_
                                    refine lv_lstore (lv' := [(4, .long (x4_175 + (LM12 ((8 * x6_153) + x7_175)))), (9, .int (nI 0)), (8, .int (nI 1)), (0, .ref (aM 0)), (1, .long x1), (3, .int x3), (6, .int (nI x6_153)), (7, .int (nI x7_175))]) hx hb d_Model_mass_264 hl (by decide) rfl (fun ls hl => ?_)
                                    refine lv_iinc (v := nI (x7_175 + 1)) (lv' := [(7, .int (nI (x7_175 + 1))), (4, .long (x4_175 + (LM12 ((8 * x6_153) + x7_175)))), (9, .int (nI 0)), (8, .int (nI 1)), (0, .ref (aM 0)), (1, .long x1), (3, .int x3), (6, .int (nI x6_153))]) hx hb d_Model_mass_266 hl (k := 7) rfl (hw_inc _ 1) (by decide) rfl (fun ls hl => ?_)
                                    refine lv_goto (tgt := 175) hx hb d_Model_mass_269 (by decide) ?_
                                    rw [hrec_175] at hR
                                    exact ih_175 (x4_175 + (LM12 ((8 * x6_153) + x7_175))) (x7_175 + 1) (by first | assumption | omega | exact hw_upb (by assumption) (by omega)) (by omega) H locs hP hD hS ls (lv_sub hl [4, 5, 6, 1, 7, 0] rfl) hR
                                · replace hR := (if_pos c232).symm.trans hR
                                  refine lv_iconst (v := nI 1) hx hb d_Model_mass_235 (by decide) ?_
                                  refine lv_goto (tgt := 240) hx hb d_Model_mass_236 (by decide) ?_
                                  refine hw_icmp_ne (tgt := 262) hx hb d_Model_mass_240 (by decide) (by omega) (by omega) (fun c240 => ?_) (fun c240 => ?_)
                                  · replace hR := (if_neg c240).symm.trans hR
                                    refine lv_lload hx hb d_Model_mass_262 (lv_at hl 5 rfl) ?_
                                    refine lv_lstore (lv' := [(4, .long x4_175), (9, .int (nI 0)), (8, .int (nI 1)), (0, .ref (aM 0)), (1, .long x1), (3, .int x3), (6, .int (nI x6_153)), (7, .int (nI x7_175))]) hx hb d_Model_mass_264 hl (by decide) rfl (fun ls hl => ?_)
                                    refine lv_iinc (v := nI (x7_175 + 1)) (lv' := [(7, .int (nI (x7_175 + 1))), (4, .long x4_175), (9, .int (nI 0)), (8, .int (nI 1)), (0, .ref (aM 0)), (1, .long x1), (3, .int x3), (6, .int (nI x6_153))]) hx hb d_Model_mass_266 hl (k := 7) rfl (hw_inc _ 1) (by decide) rfl (fun ls hl => ?_)
                                    refine lv_goto (tgt := 175) hx hb d_Model_mass_269 (by decide) ?_
                                    rw [hrec_175] at hR
                                    exact ih_175 x4_175 (x7_175 + 1) (by first | assumption | omega | exact hw_upb (by assumption) (by omega)) (by omega) H locs hP hD hS ls (lv_sub hl [4, 5, 6, 1, 7, 0] rfl) hR
                                  · replace hR := (if_pos c240).symm.trans hR
                                    refine lv_lload hx hb d_Model_mass_243 (lv_at hl 5 rfl) ?_
                                    refine lv_aload_n hx hb d_Model_mass_245 rfl (lv_at hl 2 rfl) ?_
                                    refine va_get (D := (dC, dI)) (ci := 5) (v := .ref (aM 18)) (C := R_Model) (T := T_Model) (N := 30) hx hb hG in_Model hown hK hP 0 rfl rfl 23 (by decide) (hG _ m_637) (fun _ h9 => h9) rfl d_Model_mass_246 ?_
                                    refine lv_bipush (v := nI 8) hx hb d_Model_mass_249 (by decide) ?_
                                    refine lv_iload hx hb d_Model_mass_251 (lv_at hl 6 rfl) ?_
                                    refine hw_imul hx hb d_Model_mass_253 ?_
                                    refine lv_iload hx hb d_Model_mass_254 (lv_at hl 7 rfl) ?_
                                    refine hw_iadd hx hb d_Model_mass_256 ?_
                                    refine hw_lald (f := LM12) hx hb hK hP 18 1 rfl rfl (by decide) (by omega) d_Model_mass_257 ?_
                                    refine lv_ladd hx hb d_Model_mass_258 ?_
                                    refine lv_goto (tgt := 264) hx hb d_Model_mass_259 (by decide) ?_
                                    refine lv_lstore (lv' := [(4, .long (x4_175 + (LM12 ((8 * x6_153) + x7_175)))), (9, .int (nI 0)), (8, .int (nI 1)), (0, .ref (aM 0)), (1, .long x1), (3, .int x3), (6, .int (nI x6_153)), (7, .int (nI x7_175))]) hx hb d_Model_mass_264 hl (by decide) rfl (fun ls hl => ?_)
                                    refine lv_iinc (v := nI (x7_175 + 1)) (lv' := [(7, .int (nI (x7_175 + 1))), (4, .long (x4_175 + (LM12 ((8 * x6_153) + x7_175)))), (9, .int (nI 0)), (8, .int (nI 1)), (0, .ref (aM 0)), (1, .long x1), (3, .int x3), (6, .int (nI x6_153))]) hx hb d_Model_mass_266 hl (k := 7) rfl (hw_inc _ 1) (by decide) rfl (fun ls hl => ?_)
                                    refine lv_goto (tgt := 175) hx hb d_Model_mass_269 (by decide) ?_
                                    rw [hrec_175] at hR
                                    exact ih_175 (x4_175 + (LM12 ((8 * x6_153) + x7_175))) (x7_175 + 1) (by first | assumption | omega | exact hw_upb (by assumption) (by omega)) (by omega) H locs hP hD hS ls (lv_sub hl [4, 5, 6, 1, 7, 0] rfl) hR
                            · replace hR := (if_neg c210).symm.trans hR
                              refine lv_iconst (v := nI 1) hx hb d_Model_mass_214 (by decide) ?_
                              refine lv_goto (tgt := 219) hx hb d_Model_mass_215 (by decide) ?_
                              refine lv_istore (lv' := [(9, .int (nI 1)), (8, .int (nI 1)), (0, .ref (aM 0)), (1, .long x1), (3, .int x3), (4, .long x4_175), (6, .int (nI x6_153)), (7, .int (nI x7_175))]) hx hb d_Model_mass_219 hl (by decide) rfl (fun ls hl => ?_)
                              refine lv_iload hx hb d_Model_mass_221 (lv_at hl 1 rfl) ?_
                              refine lv_iload hx hb d_Model_mass_223 (lv_at hl 0 rfl) ?_
                              refine hw_icmp_eq (tgt := 262) hx hb d_Model_mass_225 (by decide) (by omega) (by omega) (fun c225 => ?_) (fun c225 => ?_)
                              · replace hR := (if_pos c225).symm.trans hR
                                refine lv_lload hx hb d_Model_mass_262 (lv_at hl 5 rfl) ?_
                                refine lv_lstore (lv' := [(4, .long x4_175), (9, .int (nI 1)), (8, .int (nI 1)), (0, .ref (aM 0)), (1, .long x1), (3, .int x3), (6, .int (nI x6_153)), (7, .int (nI x7_175))]) hx hb d_Model_mass_264 hl (by decide) rfl (fun ls hl => ?_)
                                refine lv_iinc (v := nI (x7_175 + 1)) (lv' := [(7, .int (nI (x7_175 + 1))), (4, .long x4_175), (9, .int (nI 1)), (8, .int (nI 1)), (0, .ref (aM 0)), (1, .long x1), (3, .int x3), (6, .int (nI x6_153))]) hx hb d_Model_mass_266 hl (k := 7) rfl (hw_inc _ 1) (by decide) rfl (fun ls hl => ?_)
                                refine lv_goto (tgt := 175) hx hb d_Model_mass_269 (by decide) ?_
                                rw [hrec_175] at hR
                                exact ih_175 x4_175 (x7_175 + 1) (by first | assumption | omega | exact hw_upb (by assumption) (by omega)) (by omega) H locs hP hD hS ls (lv_sub hl [4, 5, 6, 1, 7, 0] rfl) hR
                              · replace hR := (if_neg c225).symm.trans hR
                                refine lv_iload hx hb d_Model_mass_228 (lv_at hl 1 rfl) ?_
                                refine lv_iload_n hx hb d_Model_mass_230 rfl (lv_at hl 4 rfl) ?_
                                refine lv_iconst (v := nI 2) hx hb d_Model_mass_231 (by decide) ?_
                                refine lv_icmp_ne (tgt := 239) hx hb d_Model_mass_232 (by decide) (fun c232 => ?_) (fun c232 => ?_)
                                · replace hR := (if_neg c232).symm.trans hR
                                  refine lv_iconst (v := nI 0) hx hb d_Model_mass_239 (by decide) ?_
                                  refine hw_icmp_ne (tgt := 262) hx hb d_Model_mass_240 (by decide) (by omega) (by omega) (fun c240 => ?_) (fun c240 => ?_)
                                  · replace hR := (if_neg c240).symm.trans hR
                                    refine lv_lload hx hb d_Model_mass_262 (lv_at hl 5 rfl) ?_
                                    refine lv_lstore (lv' := [(4, .long x4_175), (9, .int (nI 1)), (8, .int (nI 1)), (0, .ref (aM 0)), (1, .long x1), (3, .int x3), (6, .int (nI x6_153)), (7, .int (nI x7_175))]) hx hb d_Model_mass_264 hl (by decide) rfl (fun ls hl => ?_)
                                    refine lv_iinc (v := nI (x7_175 + 1)) (lv' := [(7, .int (nI (x7_175 + 1))), (4, .long x4_175), (9, .int (nI 1)), (8, .int (nI 1)), (0, .ref (aM 0)), (1, .long x1), (3, .int x3), (6, .int (nI x6_153))]) hx hb d_Model_mass_266 hl (k := 7) rfl (hw_inc _ 1) (by decide) rfl (fun ls hl => ?_)
                                    refine lv_goto (tgt := 175) hx hb d_Model_mass_269 (by decide) ?_
                                    rw [hrec_175] at hR
                                    exact ih_175 x4_175 (x7_175 + 1) (by first | assumption | omega | exact hw_upb (by assumption) (by omega)) (by omega) H locs hP hD hS ls (lv_sub hl [4, 5, 6, 1, 7, 0] rfl) hR
                                  · replace hR := (if_pos c240).symm.trans hR
                                    refine lv_lload hx hb d_Model_mass_243 (lv_at hl 5 rfl) ?_
                                    refine lv_aload_n hx hb d_Model_mass_245 rfl (lv_at hl 2 rfl) ?_
                                    refine va_get (D := (dC, dI)) (ci := 5) (v := .ref (aM 18)) (C := R_Model) (T := T_Model) (N := 30) hx hb hG in_Model hown hK hP 0 rfl rfl 23 (by decide) (hG _ m_637) (fun _ h9 => h9) rfl d_Model_mass_246 ?_
                                    refine lv_bipush (v := nI 8) hx hb d_Model_mass_249 (by decide) ?_
                                    refine lv_iload hx hb d_Model_mass_251 (lv_at hl 6 rfl) ?_
                                    refine hw_imul hx hb d_Model_mass_253 ?_
                                    refine lv_iload hx hb d_Model_mass_254 (lv_at hl 7 rfl) ?_
                                    refine hw_iadd hx hb d_Model_mass_256 ?_
                                    refine hw_lald (f := LM12) hx hb hK hP 18 1 rfl rfl (by decide) (by omega) d_Model_mass_257 ?_
                                    refine lv_ladd hx hb d_Model_mass_258 ?_
                                    refine lv_goto (tgt := 264) hx hb d_Model_mass_259 (by decide) ?_
                                    refine lv_lstore (lv' := [(4, .long (x4_175 + (LM12 ((8 * x6_153) + x7_175)))), (9, .int (nI 1)), (8, .int (nI 1)), (0, .ref (aM 0)), (1, .long x1), (3, .int x3), (6, .int (nI x6_153)), (7, .int (nI x7_175))]) hx hb d_Model_mass_264 hl (by decide) rfl (fun ls hl => ?_)
                                    refine lv_iinc (v := nI (x7_175 + 1)) (lv' := [(7, .int (nI (x7_175 + 1))), (4, .long (x4_175 + (LM12 ((8 * x6_153) + x7_175)))), (9, .int (nI 1)), (8, .int (nI 1)), (0, .ref (aM 0)), (1, .long x1), (3, .int x3), (6, .int (nI x6_153))]) hx hb d_Model_mass_266 hl (k := 7) rfl (hw_inc _ 1) (by decide) rfl (fun ls hl => ?_)
                                    refine lv_goto (tgt := 175) hx hb d_Model_mass_269 (by decide) ?_
                                    rw [hrec_175] at hR
                                    exact ih_175 (x4_175 + (LM12 ((8 * x6_153) + x7_175))) (x7_175 + 1) (by first | assumption | omega | exact hw_upb (by assumption) (by omega)) (by omega) H locs hP hD hS ls (lv_sub hl [4, 5, 6, 1, 7, 0] rfl) hR
                                · replace hR := (if_pos c232).symm.trans hR
                                  refine lv_iconst (v := nI 1) hx hb d_Model_mass_235 (by decide) ?_
                                  refine lv_goto (tgt := 240) hx hb d_Model_mass_236 (by decide) ?_
                                  refine hw_icmp_ne (tgt := 262) hx hb d_Model_mass_240 (by decide) (by omega) (by omega) (fun c240 => ?_) (fun c240 => ?_)
                                  · replace hR := (if_neg c240).symm.trans hR
                                    refine lv_lload hx hb d_Model_mass_262 (lv_at hl 5 rfl) ?_
                                    refine lv_lstore (lv' := [(4, .long x4_175), (9, .int (nI 1)), (8, .int (nI 1)), (0, .ref (aM 0)), (1, .long x1), (3, .int x3), (6, .int (nI x6_153)), (7, .int (nI x7_175))]) hx hb d_Model_mass_264 hl (by decide) rfl (fun ls hl => ?_)
                                    refine lv_iinc (v := nI (x7_175 + 1)) (lv' := [(7, .int (nI (x7_175 + 1))), (4, .long x4_175), (9, .int (nI 1)), (8, .int (nI 1)), (0, .ref (aM 0)), (1, .long x1), (3, .int x3), (6, .int (nI x6_153))]) hx hb d_Model_mass_266 hl (k := 7) rfl (hw_inc _ 1) (by decide) rfl (fun ls hl => ?_)
                                    refine lv_goto (tgt := 175) hx hb d_Model_mass_269 (by decide) ?_
                                    rw [hrec_175] at hR
                                    exact ih_175 x4_175 (x7_175 + 1) (by first | assumption | omega | exact hw_upb (by assumption) (by omega)) (by omega) H locs hP hD hS ls (lv_sub hl [4, 5, 6, 1, 7, 0] rfl) hR
                                  · replace hR := (if_pos c240).symm.trans hR
                                    refine lv_lload hx hb d_Model_mass_243 (lv_at hl 5 rfl) ?_
                                    refine lv_aload_n hx hb d_Model_mass_245 rfl (lv_at hl 2 rfl) ?_
                                    refine va_get (D := (dC, dI)) (ci := 5) (v := .ref (aM 18)) (C := R_Model) (T := T_Model) (N := 30) hx hb hG in_Model hown hK hP 0 rfl rfl 23 (by decide) (hG _ m_637) (fun _ h9 => h9) rfl d_Model_mass_246 ?_
                                    refine lv_bipush (v := nI 8) hx hb d_Model_mass_249 (by decide) ?_
                                    refine lv_iload hx hb d_Model_mass_251 (lv_at hl 6 rfl) ?_
                                    refine hw_imul hx hb d_Model_mass_253 ?_
                                    refine lv_iload hx hb d_Model_mass_254 (lv_at hl 7 rfl) ?_
                                    refine hw_iadd hx hb d_Model_mass_256 ?_
                                    refine hw_lald (f := LM12) hx hb hK hP 18 1 rfl rfl (by decide) (by omega) d_Model_mass_257 ?_
                                    refine lv_ladd hx hb d_Model_mass_258 ?_
                                    refine lv_goto (tgt := 264) hx hb d_Model_mass_259 (by decide) ?_
                                    refine lv_lstore (lv' := [(4, .long (x4_175 + (LM12 ((8 * x6_153) + x7_175)))), (9, .int (nI 1)), (8, .int (nI 1)), (0, .ref (aM 0)), (1, .long x1), (3, .int x3), (6, .int (nI x6_153)), (7, .int (nI x7_175))]) hx hb d_Model_mass_264 hl (by decide) rfl (fun ls hl => ?_)
                                    refine lv_iinc (v := nI (x7_175 + 1)) (lv' := [(7, .int (nI (x7_175 + 1))), (4, .long (x4_175 + (LM12 ((8 * x6_153) + x7_175)))), (9, .int (nI 1)), (8, .int (nI 1)), (0, .ref (aM 0)), (1, .long x1), (3, .int x3), (6, .int (nI x6_153))]) hx hb d_Model_mass_266 hl (k := 7) rfl (hw_inc _ 1) (by decide) rfl (fun ls hl => ?_)
                                    refine lv_goto (tgt := 175) hx hb d_Model_mass_269 (by decide) ?_
                                    rw [hrec_175] at hR
                                    exact ih_175 (x4_175 + (LM12 ((8 * x6_153) + x7_175))) (x7_175 + 1) (by first | assumption | omega | exact hw_upb (by assumption) (by omega)) (by omega) H locs hP hD hS ls (lv_sub hl [4, 5, 6, 1, 7, 0] rfl) hR
                    exact L_175 9 x4_153 0 (by first | assumption | omega | exact hw_upb (by assumption) (by omega)) (by omega) H locs hP hD hS ls (lv_sub hl [1, 2, 3, 4, 5, 0] rfl) hR
            exact L_153 13 x4_101 0 (by first | assumption | omega | exact hw_upb (by assumption) (by omega)) (by omega) H locs hP hD hS ls (lv_sub hl [1, 2, 3, 4, 0] rfl) hR
          have L_101 : ∀ (n : Nat) (x4_101 : Int64) (x6_101 : Nat) (hi : x6_101 ≤ VM2) (hfu : VM2 - x6_101 < n) (H : Heap) (locs : List Loc) (hP : va_P (dC, dI) vwCl (w_M cI cJ cZ aM 0 VM1 VM2 VM3 VM4 VM5 WM0 NM0 NM1 NM2 LM0 LM1 LM2 LM3 LM4 LM5 LM6 LM7 LM8 LM9 LM10 LM11 LM12 LM13 LM14 LM15 IM0 IM1 IM2 IM3) H) (hD : va_D A (w_M cI cJ cZ aM 0 VM1 VM2 VM3 VM4 VM5 WM0 NM0 NM1 NM2 LM0 LM1 LM2 LM3 LM4 LM5 LM6 LM7 LM8 LM9 LM10 LM11 LM12 LM13 LM14 LM15 IM0 IM1 IM2 IM3)) (hS : va_S A s.heap H locs) (ls : Array Slot) (hl : lv_has ls 10 [(0, .ref (aM 0)), (1, .long x1), (3, .int x3), (4, .long x4_101), (6, .int (nI x6_101))]) (hR : f_Model_mass_h101 VM2 x3 x1 LM3 LM2 k_101 n x4_101 x6_101 = r0), W p l e (headSpec u_Model_mass ({ frames := 1, cells := 0, slots := 0, locals := 25 })).room s m ([.ref (aM 0), .long x1, .int x3]).toArray below meth c H locs 0 0 (hh_Zl below (dC, dI) vwCl [(cI, .int), (cJ, .long), (cZ, .boolean)] A r0.1 (w_M cI cJ cZ aM r0.2 VM1 VM2 VM3 VM4 VM5 WM0 NM0 NM1 NM2 LM0 LM1 LM2 LM3 LM4 LM5 LM6 LM7 LM8 LM9 LM10 LM11 LM12 LM13 LM14 LM15 IM0 IM1 IM2 IM3) ([.ref (aM 0), .long x1, .int x3]).toArray s) (F0 m 101 ls []) := by
            intro n
            induction n with
            | zero =>
              intro x4_101 x6_101 hi hfu H locs hP hD hS ls hl hR
              exact absurd hfu (Nat.not_lt_zero _)
            | succ n ih_101 =>
              intro x4_101 x6_101 hi hfu H locs hP hD hS ls hl hR
              rw [f_Model_mass_h101] at hR
              obtain ⟨rec_101, hrec_101, hR⟩ : ∃ r, r = _ ∧ f_Model_mass_h101B VM2 x3 x1 LM3 LM2 k_101 r x4_101 x6_101 = r0 := ⟨_, rfl, hR⟩
              unfold f_Model_mass_h101B at hR
              refine lv_iload hx hb d_Model_mass_101 (lv_at hl 4 rfl) ?_
              refine lv_aload_n hx hb d_Model_mass_103 rfl (lv_at hl 0 rfl) ?_
              refine va_get (D := (dC, dI)) (ci := 5) (v := .int (nI VM2)) (C := R_Model) (T := T_Model) (N := 30) hx hb hG in_Model hown hK hP 0 rfl rfl 6 (by decide) (hG _ m_620) (fun _ h9 => h9) rfl d_Model_mass_104 ?_
              refine hw_icmp_ge (tgt := 150) hx hb d_Model_mass_107 (by decide) (by omega) (by omega) (fun c107 => ?_) (fun c107 => ?_)
              · replace hR := (if_pos c107).symm.trans hR
                exact X_101 x4_101 x6_101 (by first | assumption | omega | exact hw_upb (by assumption) (by omega)) H locs hP hD hS ls (lv_sub hl [0, 1, 2, 3, 4] rfl) hR
              · replace hR := (if_neg c107).symm.trans hR
                refine lv_iload_n hx hb d_Model_mass_110 rfl (lv_at hl 2 rfl) ?_
                refine lv_iconst (v := nI 1) hx hb d_Model_mass_111 (by decide) ?_
                refine lv_icmp_ne (tgt := 150) hx hb d_Model_mass_112 (by decide) (fun c112 => ?_) (fun c112 => ?_)
                · replace hR := (if_neg c112).symm.trans hR
                  exact X_101 x4_101 x6_101 (by first | assumption | omega | exact hw_upb (by assumption) (by omega)) H locs hP hD hS ls (lv_sub hl [0, 1, 2, 3, 4] rfl) hR
                · replace hR := (if_pos c112).symm.trans hR
                  refine lv_aload_n hx hb d_Model_mass_115 rfl (lv_at hl 0 rfl) ?_
                  refine va_get (D := (dC, dI)) (ci := 5) (v := .ref (aM 7)) (C := R_Model) (T := T_Model) (N := 30) hx hb hG in_Model hown hK hP 0 rfl rfl 9 (by decide) (hG _ m_623) (fun _ h9 => h9) rfl d_Model_mass_116 ?_
                  refine lv_iload hx hb d_Model_mass_119 (lv_at hl 4 rfl) ?_
                  refine hw_lald (f := LM3) hx hb hK hP 7 1 rfl rfl (by decide) (by omega) d_Model_mass_121 ?_
                  refine lv_lload_n hx hb d_Model_mass_122 rfl (lv_at hl 1 rfl) ?_
                  refine hw_lcmp_gt (tgt := 140) hx hb d_Model_mass_123 d_Model_mass_124 (by decide) (fun c123 => ?_) (fun c123 => ?_)
                  · replace hR := (if_pos c123).symm.trans hR
                    refine lv_lload hx hb d_Model_mass_140 (lv_at hl 3 rfl) ?_
                    refine lv_lstore (lv' := [(4, .long x4_101), (0, .ref (aM 0)), (1, .long x1), (3, .int x3), (6, .int (nI x6_101))]) hx hb d_Model_mass_142 hl (by decide) rfl (fun ls hl => ?_)
                    refine lv_iinc (v := nI (x6_101 + 1)) (lv' := [(6, .int (nI (x6_101 + 1))), (4, .long x4_101), (0, .ref (aM 0)), (1, .long x1), (3, .int x3)]) hx hb d_Model_mass_144 hl (k := 4) rfl (hw_inc _ 1) (by decide) rfl (fun ls hl => ?_)
                    refine lv_goto (tgt := 101) hx hb d_Model_mass_147 (by decide) ?_
                    rw [hrec_101] at hR
                    exact ih_101 x4_101 (x6_101 + 1) (by first | assumption | omega | exact hw_upb (by assumption) (by omega)) (by omega) H locs hP hD hS ls (lv_sub hl [2, 3, 4, 1, 0] rfl) hR
                  · replace hR := (if_neg c123).symm.trans hR
                    refine lv_lload hx hb d_Model_mass_127 (lv_at hl 3 rfl) ?_
                    refine lv_aload_n hx hb d_Model_mass_129 rfl (lv_at hl 0 rfl) ?_
                    refine va_get (D := (dC, dI)) (ci := 5) (v := .ref (aM 5)) (C := R_Model) (T := T_Model) (N := 30) hx hb hG in_Model hown hK hP 0 rfl rfl 7 (by decide) (hG _ m_621) (fun _ h9 => h9) rfl d_Model_mass_130 ?_
                    refine lv_iload hx hb d_Model_mass_133 (lv_at hl 4 rfl) ?_
                    refine hw_lald (f := LM2) hx hb hK hP 5 1 rfl rfl (by decide) (by omega) d_Model_mass_135 ?_
                    refine lv_ladd hx hb d_Model_mass_136 ?_
                    refine lv_goto (tgt := 142) hx hb d_Model_mass_137 (by decide) ?_
                    refine lv_lstore (lv' := [(4, .long (x4_101 + (LM2 x6_101))), (0, .ref (aM 0)), (1, .long x1), (3, .int x3), (6, .int (nI x6_101))]) hx hb d_Model_mass_142 hl (by decide) rfl (fun ls hl => ?_)
                    refine lv_iinc (v := nI (x6_101 + 1)) (lv' := [(6, .int (nI (x6_101 + 1))), (4, .long (x4_101 + (LM2 x6_101))), (0, .ref (aM 0)), (1, .long x1), (3, .int x3)]) hx hb d_Model_mass_144 hl (k := 4) rfl (hw_inc _ 1) (by decide) rfl (fun ls hl => ?_)
                    refine lv_goto (tgt := 101) hx hb d_Model_mass_147 (by decide) ?_
                    rw [hrec_101] at hR
                    exact ih_101 (x4_101 + (LM2 x6_101)) (x6_101 + 1) (by first | assumption | omega | exact hw_upb (by assumption) (by omega)) (by omega) H locs hP hD hS ls (lv_sub hl [2, 3, 4, 1, 0] rfl) hR
          exact L_101 9 x4_51 0 (by first | assumption | omega | exact hw_upb (by assumption) (by omega)) (by omega) H locs hP hD hS ls (lv_sub hl [1, 2, 3, 4, 0] rfl) hR
        have L_51 : ∀ (n : Nat) (x4_51 : Int64) (x6_51 : Nat) (hi : x6_51 ≤ VM1) (hfu : VM1 - x6_51 < n) (H : Heap) (locs : List Loc) (hP : va_P (dC, dI) vwCl (w_M cI cJ cZ aM 0 VM1 VM2 VM3 VM4 VM5 WM0 NM0 NM1 NM2 LM0 LM1 LM2 LM3 LM4 LM5 LM6 LM7 LM8 LM9 LM10 LM11 LM12 LM13 LM14 LM15 IM0 IM1 IM2 IM3) H) (hD : va_D A (w_M cI cJ cZ aM 0 VM1 VM2 VM3 VM4 VM5 WM0 NM0 NM1 NM2 LM0 LM1 LM2 LM3 LM4 LM5 LM6 LM7 LM8 LM9 LM10 LM11 LM12 LM13 LM14 LM15 IM0 IM1 IM2 IM3)) (hS : va_S A s.heap H locs) (ls : Array Slot) (hl : lv_has ls 10 [(0, .ref (aM 0)), (1, .long x1), (3, .int x3), (4, .long x4_51), (6, .int (nI x6_51))]) (hR : f_Model_mass_h51 VM1 x3 x1 LM1 NM0 LM0 LM4 LM5 k_51 n x4_51 x6_51 = r0), W p l e (headSpec u_Model_mass ({ frames := 1, cells := 0, slots := 0, locals := 25 })).room s m ([.ref (aM 0), .long x1, .int x3]).toArray below meth c H locs 0 0 (hh_Zl below (dC, dI) vwCl [(cI, .int), (cJ, .long), (cZ, .boolean)] A r0.1 (w_M cI cJ cZ aM r0.2 VM1 VM2 VM3 VM4 VM5 WM0 NM0 NM1 NM2 LM0 LM1 LM2 LM3 LM4 LM5 LM6 LM7 LM8 LM9 LM10 LM11 LM12 LM13 LM14 LM15 IM0 IM1 IM2 IM3) ([.ref (aM 0), .long x1, .int x3]).toArray s) (F0 m 51 ls []) := by
          intro n
          induction n with
          | zero =>
            intro x4_51 x6_51 hi hfu H locs hP hD hS ls hl hR
            exact absurd hfu (Nat.not_lt_zero _)
          | succ n ih_51 =>
            intro x4_51 x6_51 hi hfu H locs hP hD hS ls hl hR
            rw [f_Model_mass_h51] at hR
            obtain ⟨rec_51, hrec_51, hR⟩ : ∃ r, r = _ ∧ f_Model_mass_h51B VM1 x3 x1 LM1 NM0 LM0 LM4 LM5 k_51 r x4_51 x6_51 = r0 := ⟨_, rfl, hR⟩
            unfold f_Model_mass_h51B at hR
            refine lv_iload hx hb d_Model_mass_51 (lv_at hl 4 rfl) ?_
            refine lv_aload_n hx hb d_Model_mass_53 rfl (lv_at hl 0 rfl) ?_
            refine va_get (D := (dC, dI)) (ci := 5) (v := .int (nI VM1)) (C := R_Model) (T := T_Model) (N := 30) hx hb hG in_Model hown hK hP 0 rfl rfl 1 (by decide) (hG _ m_615) (fun _ h9 => h9) rfl d_Model_mass_54 ?_
            refine hw_icmp_ge (tgt := 98) hx hb d_Model_mass_57 (by decide) (by omega) (by omega) (fun c57 => ?_) (fun c57 => ?_)
            · replace hR := (if_pos c57).symm.trans hR
              exact X_51 x4_51 x6_51 (by first | assumption | omega | exact hw_upb (by assumption) (by omega)) H locs hP hD hS ls (lv_sub hl [0, 1, 2, 3, 4] rfl) hR
            · replace hR := (if_neg c57).symm.trans hR
              refine lv_iload_n hx hb d_Model_mass_60 rfl (lv_at hl 2 rfl) ?_
              refine lv_if_ne (tgt := 98) hx hb d_Model_mass_61 (by decide) (fun c61 => ?_) (fun c61 => ?_)
              · replace hR := (if_neg c61).symm.trans hR
                exact X_51 x4_51 x6_51 (by first | assumption | omega | exact hw_upb (by assumption) (by omega)) H locs hP hD hS ls (lv_sub hl [0, 1, 2, 3, 4] rfl) hR
              · replace hR := (if_pos c61).symm.trans hR
                refine lv_aload_n hx hb d_Model_mass_64 rfl (lv_at hl 0 rfl) ?_
                refine va_get (D := (dC, dI)) (ci := 5) (v := .ref (aM 4)) (C := R_Model) (T := T_Model) (N := 30) hx hb hG in_Model hown hK hP 0 rfl rfl 5 (by decide) (hG _ m_619) (fun _ h9 => h9) rfl d_Model_mass_65 ?_
                refine lv_iload hx hb d_Model_mass_68 (lv_at hl 4 rfl) ?_
                refine hw_lald (f := LM1) hx hb hK hP 4 1 rfl rfl (by decide) (by omega) d_Model_mass_70 ?_
                refine lv_lload_n hx hb d_Model_mass_71 rfl (lv_at hl 1 rfl) ?_
                refine hw_lcmp_gt (tgt := 88) hx hb d_Model_mass_72 d_Model_mass_73 (by decide) (fun c72 => ?_) (fun c72 => ?_)
                · replace hR := (if_pos c72).symm.trans hR
                  refine lv_lload hx hb d_Model_mass_88 (lv_at hl 3 rfl) ?_
                  refine lv_lstore (lv' := [(4, .long x4_51), (0, .ref (aM 0)), (1, .long x1), (3, .int x3), (6, .int (nI x6_51))]) hx hb d_Model_mass_90 hl (by decide) rfl (fun ls hl => ?_)
                  refine lv_iinc (v := nI (x6_51 + 1)) (lv' := [(6, .int (nI (x6_51 + 1))), (4, .long x4_51), (0, .ref (aM 0)), (1, .long x1), (3, .int x3)]) hx hb d_Model_mass_92 hl (k := 4) rfl (hw_inc _ 1) (by decide) rfl (fun ls hl => ?_)
                  refine lv_goto (tgt := 51) hx hb d_Model_mass_95 (by decide) ?_
                  rw [hrec_51] at hR
                  exact ih_51 x4_51 (x6_51 + 1) (by first | assumption | omega | exact hw_upb (by assumption) (by omega)) (by omega) H locs hP hD hS ls (lv_sub hl [2, 3, 4, 1, 0] rfl) hR
                · replace hR := (if_neg c72).symm.trans hR
                  refine lv_lload hx hb d_Model_mass_76 (lv_at hl 3 rfl) ?_
                  refine lv_aload_n hx hb d_Model_mass_78 rfl (lv_at hl 0 rfl) ?_
                  refine lv_iload hx hb d_Model_mass_79 (lv_at hl 4 rfl) ?_
                  obtain ⟨y81, hy81, hR⟩ := hw_bind hR
                  have hM := c_Model_gives l dC dI cI cJ cZ H.size aM 0 VM1 VM2 VM3 VM4 VM5 WM0 NM0 NM1 NM2 LM0 LM1 LM2 LM3 LM4 LM5 LM6 LM7 LM8 LM9 LM10 LM11 LM12 LM13 LM14 LM15 IM0 IM1 IM2 IM3 x6_51 (by first | assumption | omega) (by first | assumption | omega) (by first | assumption | omega)
                  rw [hy81] at hM
                  refine hw_callVl (As := [.int (nI x6_51)]) (rest := [.long x4_51]) (wr := ([] : va_W)) ⟨hx, hb, hml, hown, hG⟩ hM (hw_cwV 1 hG m_758 m_760 mp_22 m_7 m_761 rfl rfl (by decide +kernel) ⟨Nat.le_of_ble_eq_true rfl, Nat.le_of_ble_eq_true rfl⟩) hK hP hD hS hA [0, 1, 2, 3, 4, 5, 6, 7, 8, 9, 10, 11, 12, 13, 14, 15, 16, 17, 18, 19, 20, 21, 22, 23] [] rfl rfl (by decide) (by decide) (by decide) (hw_recv hK hP 0 rfl rfl) rfl hl.1 rfl (Nat.le_of_ble_eq_true rfl) d_Model_mass_81 ⟨Nat.le_of_ble_eq_true rfl, Nat.le_of_ble_eq_true rfl⟩ (fun H locs hP hD hS => ?_)
                  have hP : va_P (dC, dI) vwCl (w_M cI cJ cZ aM 0 VM1 VM2 VM3 VM4 VM5 WM0 NM0 NM1 NM2 LM0 LM1 LM2 LM3 LM4 LM5 LM6 LM7 LM8 LM9 LM10 LM11 LM12 LM13 LM14 LM15 IM0 IM1 IM2 IM3) H := hP
                  have hD : va_D A (w_M cI cJ cZ aM 0 VM1 VM2 VM3 VM4 VM5 WM0 NM0 NM1 NM2 LM0 LM1 LM2 LM3 LM4 LM5 LM6 LM7 LM8 LM9 LM10 LM11 LM12 LM13 LM14 LM15 IM0 IM1 IM2 IM3) := hD
                  refine lv_ladd hx hb d_Model_mass_84 ?_
                  refine lv_goto (tgt := 90) hx hb d_Model_mass_85 (by decide) ?_
                  refine lv_lstore (lv' := [(4, .long (x4_51 + y81)), (0, .ref (aM 0)), (1, .long x1), (3, .int x3), (6, .int (nI x6_51))]) hx hb d_Model_mass_90 hl (by decide) rfl (fun ls hl => ?_)
                  refine lv_iinc (v := nI (x6_51 + 1)) (lv' := [(6, .int (nI (x6_51 + 1))), (4, .long (x4_51 + y81)), (0, .ref (aM 0)), (1, .long x1), (3, .int x3)]) hx hb d_Model_mass_92 hl (k := 4) rfl (hw_inc _ 1) (by decide) rfl (fun ls hl => ?_)
                  refine lv_goto (tgt := 51) hx hb d_Model_mass_95 (by decide) ?_
                  rw [hrec_51] at hR
                  exact ih_51 (x4_51 + y81) (x6_51 + 1) (by first | assumption | omega | exact hw_upb (by assumption) (by omega)) (by omega) H locs hP hD hS ls (lv_sub hl [2, 3, 4, 1, 0] rfl) hR
        exact L_51 9 0 0 (by first | assumption | omega | exact hw_upb (by assumption) (by omega)) (by omega) H locs hP hD hS ls (lv_sub hl [2, 3, 4, 1, 0] rfl) hR
      · replace hR := (if_neg c30).symm.trans hR
        refine lv_aload_n hx hb d_Model_mass_33 rfl (lv_at hl 0 rfl) ?_
        refine va_get (D := (dC, dI)) (ci := 5) (v := .int (nI VM5)) (C := R_Model) (T := T_Model) (N := 30) hx hb hG in_Model hown hK hP 0 rfl rfl 22 (by decide) (hG _ m_636) (fun _ h9 => h9) rfl d_Model_mass_34 ?_
        refine lv_iconst (v := nI 1) hx hb d_Model_mass_37 (by decide) ?_
        refine hw_icmp_eq (tgt := 45) hx hb d_Model_mass_38 (by decide) (by omega) (by omega) (fun c38 => ?_) (fun c38 => ?_)
        · replace hR := (if_pos c38).symm.trans hR
          refine lv_lconst (v := 0) hx hb d_Model_mass_45 (by decide) ?_
          refine lv_lstore (lv' := [(4, .long 0), (0, .ref (aM 0)), (1, .long x1), (3, .int x3)]) hx hb d_Model_mass_46 hl (by decide) rfl (fun ls hl => ?_)
          refine lv_iconst (v := nI 0) hx hb d_Model_mass_48 (by decide) ?_
          refine lv_istore (lv' := [(6, .int (nI 0)), (4, .long 0), (0, .ref (aM 0)), (1, .long x1), (3, .int x3)]) hx hb d_Model_mass_49 hl (by decide) rfl (fun ls hl => ?_)
          obtain ⟨k_51, hk_51, hR⟩ : ∃ k, (f_Model_mass_x51 VM2 x3 x1 LM3 LM2 VM1 VM4 LM1 LM9 LM12) = k ∧ f_Model_mass_h51 VM1 x3 x1 LM1 NM0 LM0 LM4 LM5 k 9 0 0 = r0 := ⟨_, rfl, hR⟩
          have X_51 : ∀ (x4_51 : Int64) (x6_51 : Nat) (hi : x6_51 ≤ VM1) (H : Heap) (locs : List Loc) (hP : va_P (dC, dI) vwCl (w_M cI cJ cZ aM 0 VM1 VM2 VM3 VM4 VM5 WM0 NM0 NM1 NM2 LM0 LM1 LM2 LM3 LM4 LM5 LM6 LM7 LM8 LM9 LM10 LM11 LM12 LM13 LM14 LM15 IM0 IM1 IM2 IM3) H) (hD : va_D A (w_M cI cJ cZ aM 0 VM1 VM2 VM3 VM4 VM5 WM0 NM0 NM1 NM2 LM0 LM1 LM2 LM3 LM4 LM5 LM6 LM7 LM8 LM9 LM10 LM11 LM12 LM13 LM14 LM15 IM0 IM1 IM2 IM3)) (hS : va_S A s.heap H locs) (ls : Array Slot) (hl : lv_has ls 10 [(0, .ref (aM 0)), (1, .long x1), (3, .int x3), (4, .long x4_51), (6, .int (nI x6_51))]) (hR : k_51 x4_51 x6_51 = r0), W p l e (headSpec u_Model_mass ({ frames := 1, cells := 0, slots := 0, locals := 25 })).room s m ([.ref (aM 0), .long x1, .int x3]).toArray below meth c H locs 0 0 (hh_Zl below (dC, dI) vwCl [(cI, .int), (cJ, .long), (cZ, .boolean)] A r0.1 (w_M cI cJ cZ aM r0.2 VM1 VM2 VM3 VM4 VM5 WM0 NM0 NM1 NM2 LM0 LM1 LM2 LM3 LM4 LM5 LM6 LM7 LM8 LM9 LM10 LM11 LM12 LM13 LM14 LM15 IM0 IM1 IM2 IM3) ([.ref (aM 0), .long x1, .int x3]).toArray s) (F0 m 98 ls []) := by
            intro x4_51 x6_51 hi H locs hP hD hS ls hl hR
            rw [← hk_51] at hR
            unfold f_Model_mass_x51 at hR
            refine lv_iconst (v := nI 0) hx hb d_Model_mass_98 (by decide) ?_
            refine lv_istore (lv' := [(6, .int (nI 0)), (0, .ref (aM 0)), (1, .long x1), (3, .int x3), (4, .long x4_51)]) hx hb d_Model_mass_99 hl (by decide) rfl (fun ls hl => ?_)
            obtain ⟨k_101, hk_101, hR⟩ : ∃ k, (f_Model_mass_x101 VM1 VM4 x3 VM2 LM1 LM9 x1 LM3 LM12) = k ∧ f_Model_mass_h101 VM2 x3 x1 LM3 LM2 k 9 x4_51 0 = r0 := ⟨_, rfl, hR⟩
            have X_101 : ∀ (x4_101 : Int64) (x6_101 : Nat) (hi : x6_101 ≤ VM2) (H : Heap) (locs : List Loc) (hP : va_P (dC, dI) vwCl (w_M cI cJ cZ aM 0 VM1 VM2 VM3 VM4 VM5 WM0 NM0 NM1 NM2 LM0 LM1 LM2 LM3 LM4 LM5 LM6 LM7 LM8 LM9 LM10 LM11 LM12 LM13 LM14 LM15 IM0 IM1 IM2 IM3) H) (hD : va_D A (w_M cI cJ cZ aM 0 VM1 VM2 VM3 VM4 VM5 WM0 NM0 NM1 NM2 LM0 LM1 LM2 LM3 LM4 LM5 LM6 LM7 LM8 LM9 LM10 LM11 LM12 LM13 LM14 LM15 IM0 IM1 IM2 IM3)) (hS : va_S A s.heap H locs) (ls : Array Slot) (hl : lv_has ls 10 [(0, .ref (aM 0)), (1, .long x1), (3, .int x3), (4, .long x4_101), (6, .int (nI x6_101))]) (hR : k_101 x4_101 x6_101 = r0), W p l e (headSpec u_Model_mass ({ frames := 1, cells := 0, slots := 0, locals := 25 })).room s m ([.ref (aM 0), .long x1, .int x3]).toArray below meth c H locs 0 0 (hh_Zl below (dC, dI) vwCl [(cI, .int), (cJ, .long), (cZ, .boolean)] A r0.1 (w_M cI cJ cZ aM r0.2 VM1 VM2 VM3 VM4 VM5 WM0 NM0 NM1 NM2 LM0 LM1 LM2 LM3 LM4 LM5 LM6 LM7 LM8 LM9 LM10 LM11 LM12 LM13 LM14 LM15 IM0 IM1 IM2 IM3) ([.ref (aM 0), .long x1, .int x3]).toArray s) (F0 m 150 ls []) := by
              intro x4_101 x6_101 hi H locs hP hD hS ls hl hR
              rw [← hk_101] at hR
              unfold f_Model_mass_x101 at hR
              refine lv_iconst (v := nI 0) hx hb d_Model_mass_150 (by decide) ?_
              refine lv_istore (lv' := [(6, .int (nI 0)), (0, .ref (aM 0)), (1, .long x1), (3, .int x3), (4, .long x4_101)]) hx hb d_Model_mass_151 hl (by decide) rfl (fun ls hl => ?_)
              obtain ⟨k_153, hk_153, hR⟩ : ∃ k, f_Model_mass_x153 = k ∧ f_Model_mass_h153 VM1 VM4 x3 VM2 LM1 LM9 x1 LM3 LM12 k 13 x4_101 0 = r0 := ⟨_, rfl, hR⟩
              have X_153 : ∀ (x4_153 : Int64) (x6_153 : Nat) (hi : x6_153 ≤ (VM1 + VM4)) (H : Heap) (locs : List Loc) (hP : va_P (dC, dI) vwCl (w_M cI cJ cZ aM 0 VM1 VM2 VM3 VM4 VM5 WM0 NM0 NM1 NM2 LM0 LM1 LM2 LM3 LM4 LM5 LM6 LM7 LM8 LM9 LM10 LM11 LM12 LM13 LM14 LM15 IM0 IM1 IM2 IM3) H) (hD : va_D A (w_M cI cJ cZ aM 0 VM1 VM2 VM3 VM4 VM5 WM0 NM0 NM1 NM2 LM0 LM1 LM2 LM3 LM4 LM5 LM6 LM7 LM8 LM9 LM10 LM11 LM12 LM13 LM14 LM15 IM0 IM1 IM2 IM3)) (hS : va_S A s.heap H locs) (ls : Array Slot) (hl : lv_has ls 10 [(0, .ref (aM 0)), (1, .long x1), (3, .int x3), (4, .long x4_153), (6, .int (nI x6_153))]) (hR : k_153 x4_153 x6_153 = r0), W p l e (headSpec u_Model_mass ({ frames := 1, cells := 0, slots := 0, locals := 25 })).room s m ([.ref (aM 0), .long x1, .int x3]).toArray below meth c H locs 0 0 (hh_Zl below (dC, dI) vwCl [(cI, .int), (cJ, .long), (cZ, .boolean)] A r0.1 (w_M cI cJ cZ aM r0.2 VM1 VM2 VM3 VM4 VM5 WM0 NM0 NM1 NM2 LM0 LM1 LM2 LM3 LM4 LM5 LM6 LM7 LM8 LM9 LM10 LM11 LM12 LM13 LM14 LM15 IM0 IM1 IM2 IM3) ([.ref (aM 0), .long x1, .int x3]).toArray s) (F0 m 278 ls []) := by
                intro x4_153 x6_153 hi H locs hP hD hS ls hl hR
                rw [← hk_153] at hR
                unfold f_Model_mass_x153 at hR
                refine lv_lload hx hb d_Model_mass_278 (lv_at hl 3 rfl) ?_
                subst hR
                exact W.lret (v := x4_153) hx hb hr (fun t ht hW => ⟨⟨_, (), rfl, rfl, by rw [ht]; exact hP, va_K.moved hW.alike hK, hD⟩, hS.F ht⟩) hS.2.2 d_Model_mass_280
              have L_153 : ∀ (n : Nat) (x4_153 : Int64) (x6_153 : Nat) (hi : x6_153 ≤ (VM1 + VM4)) (hfu : (VM1 + VM4) - x6_153 < n) (H : Heap) (locs : List Loc) (hP : va_P (dC, dI) vwCl (w_M cI cJ cZ aM 0 VM1 VM2 VM3 VM4 VM5 WM0 NM0 NM1 NM2 LM0 LM1 LM2 LM3 LM4 LM5 LM6 LM7 LM8 LM9 LM10 LM11 LM12 LM13 LM14 LM15 IM0 IM1 IM2 IM3) H) (hD : va_D A (w_M cI cJ cZ aM 0 VM1 VM2 VM3 VM4 VM5 WM0 NM0 NM1 NM2 LM0 LM1 LM2 LM3 LM4 LM5 LM6 LM7 LM8 LM9 LM10 LM11 LM12 LM13 LM14 LM15 IM0 IM1 IM2 IM3)) (hS : va_S A s.heap H locs) (ls : Array Slot) (hl : lv_has ls 10 [(0, .ref (aM 0)), (1, .long x1), (3, .int x3), (4, .long x4_153), (6, .int (nI x6_153))]) (hR : f_Model_mass_h153 VM1 VM4 x3 VM2 LM1 LM9 x1 LM3 LM12 k_153 n x4_153 x6_153 = r0), W p l e (headSpec u_Model_mass ({ frames := 1, cells := 0, slots := 0, locals := 25 })).room s m ([.ref (aM 0), .long x1, .int x3]).toArray below meth c H locs 0 0 (hh_Zl below (dC, dI) vwCl [(cI, .int), (cJ, .long), (cZ, .boolean)] A r0.1 (w_M cI cJ cZ aM r0.2 VM1 VM2 VM3 VM4 VM5 WM0 NM0 NM1 NM2 LM0 LM1 LM2 LM3 LM4 LM5 LM6 LM7 LM8 LM9 LM10 LM11 LM12 LM13 LM14 LM15 IM0 IM1 IM2 IM3) ([.ref (aM 0), .long x1, .int x3]).toArray s) (F0 m 153 ls []) := by
                intro n
                induction n with
                | zero =>
                  intro x4_153 x6_153 hi hfu H locs hP hD hS ls hl hR
                  exact absurd hfu (Nat.not_lt_zero _)
                | succ n ih_153 =>
                  intro x4_153 x6_153 hi hfu H locs hP hD hS ls hl hR
                  rw [f_Model_mass_h153] at hR
                  obtain ⟨rec_153, hrec_153, hR⟩ : ∃ r, r = _ ∧ f_Model_mass_h153B VM1 VM4 x3 VM2 LM1 LM9 x1 LM3 LM12 k_153 r x4_153 x6_153 = r0 := ⟨_, rfl, hR⟩
                  unfold f_Model_mass_h153B at hR
                  refine lv_iload hx hb d_Model_mass_153 (lv_at hl 4 rfl) ?_
                  refine lv_aload_n hx hb d_Model_mass_155 rfl (lv_at hl 0 rfl) ?_
                  refine va_get (D := (dC, dI)) (ci := 5) (v := .int (nI VM1)) (C := R_Model) (T := T_Model) (N := 30) hx hb hG in_Model hown hK hP 0 rfl rfl 1 (by decide) (hG _ m_615) (fun _ h9 => h9) rfl d_Model_mass_156 ?_
                  refine lv_aload_n hx hb d_Model_mass_159 rfl (lv_at hl 0 rfl) ?_
                  refine va_get (D := (dC, dI)) (ci := 5) (v := .int (nI VM4)) (C := R_Model) (T := T_Model) (N := 30) hx hb hG in_Model hown hK hP 0 rfl rfl 18 (by decide) (hG _ m_632) (fun _ h9 => h9) rfl d_Model_mass_160 ?_
                  refine hw_iadd hx hb d_Model_mass_163 ?_
                  refine hw_icmp_ge (tgt := 278) hx hb d_Model_mass_164 (by decide) (by omega) (by omega) (fun c164 => ?_) (fun c164 => ?_)
                  · replace hR := (if_pos c164).symm.trans hR
                    exact X_153 x4_153 x6_153 (by first | assumption | omega | exact hw_upb (by assumption) (by omega)) H locs hP hD hS ls (lv_sub hl [0, 1, 2, 3, 4] rfl) hR
                  · replace hR := (if_neg c164).symm.trans hR
                    refine lv_iload_n hx hb d_Model_mass_167 rfl (lv_at hl 2 rfl) ?_
                    refine lv_iconst (v := nI 1) hx hb d_Model_mass_168 (by decide) ?_
                    refine lv_icmp_le (tgt := 278) hx hb d_Model_mass_169 (by decide) (fun c169 => ?_) (fun c169 => ?_)
                    · replace hR := (if_pos c169).symm.trans hR
                      exact X_153 x4_153 x6_153 (by first | assumption | omega | exact hw_upb (by assumption) (by omega)) H locs hP hD hS ls (lv_sub hl [0, 1, 2, 3, 4] rfl) hR
                    · replace hR := (if_neg c169).symm.trans hR
                      refine lv_iconst (v := nI 0) hx hb d_Model_mass_172 (by decide) ?_
                      refine lv_istore (lv' := [(7, .int (nI 0)), (0, .ref (aM 0)), (1, .long x1), (3, .int x3), (4, .long x4_153), (6, .int (nI x6_153))]) hx hb d_Model_mass_173 hl (by decide) rfl (fun ls hl => ?_)
                      obtain ⟨k_175, hk_175, hR⟩ : ∃ k, (f_Model_mass_x175 rec_153 x6_153) = k ∧ f_Model_mass_h175 VM2 VM1 LM1 LM9 x6_153 x1 LM3 x3 LM12 k 9 x4_153 0 = r0 := ⟨_, rfl, hR⟩
                      have X_175 : ∀ (x4_175 : Int64) (x7_175 : Nat) (hi : x7_175 ≤ VM2) (H : Heap) (locs : List Loc) (hP : va_P (dC, dI) vwCl (w_M cI cJ cZ aM 0 VM1 VM2 VM3 VM4 VM5 WM0 NM0 NM1 NM2 LM0 LM1 LM2 LM3 LM4 LM5 LM6 LM7 LM8 LM9 LM10 LM11 LM12 LM13 LM14 LM15 IM0 IM1 IM2 IM3) H) (hD : va_D A (w_M cI cJ cZ aM 0 VM1 VM2 VM3 VM4 VM5 WM0 NM0 NM1 NM2 LM0 LM1 LM2 LM3 LM4 LM5 LM6 LM7 LM8 LM9 LM10 LM11 LM12 LM13 LM14 LM15 IM0 IM1 IM2 IM3)) (hS : va_S A s.heap H locs) (ls : Array Slot) (hl : lv_has ls 10 [(0, .ref (aM 0)), (1, .long x1), (3, .int x3), (4, .long x4_175), (6, .int (nI x6_153)), (7, .int (nI x7_175))]) (hR : k_175 x4_175 x7_175 = r0), W p l e (headSpec u_Model_mass ({ frames := 1, cells := 0, slots := 0, locals := 25 })).room s m ([.ref (aM 0), .long x1, .int x3]).toArray below meth c H locs 0 0 (hh_Zl below (dC, dI) vwCl [(cI, .int), (cJ, .long), (cZ, .boolean)] A r0.1 (w_M cI cJ cZ aM r0.2 VM1 VM2 VM3 VM4 VM5 WM0 NM0 NM1 NM2 LM0 LM1 LM2 LM3 LM4 LM5 LM6 LM7 LM8 LM9 LM10 LM11 LM12 LM13 LM14 LM15 IM0 IM1 IM2 IM3) ([.ref (aM 0), .long x1, .int x3]).toArray s) (F0 m 272 ls []) := by
                        intro x4_175 x7_175 hi H locs hP hD hS ls hl hR
                        rw [← hk_175] at hR
                        unfold f_Model_mass_x175 at hR
                        refine lv_iinc (v := nI (x6_153 + 1)) (lv' := [(6, .int (nI (x6_153 + 1))), (0, .ref (aM 0)), (1, .long x1), (3, .int x3), (4, .long x4_175), (7, .int (nI x7_175))]) hx hb d_Model_mass_272 hl (k := 4) rfl (hw_inc _ 1) (by decide) rfl (fun ls hl => ?_)
                        refine lv_goto (tgt := 153) hx hb d_Model_mass_275 (by decide) ?_
                        rw [hrec_153] at hR
                        exact ih_153 x4_175 (x6_153 + 1) (by first | assumption | omega | exact hw_upb (by assumption) (by omega)) (by omega) H locs hP hD hS ls (lv_sub hl [1, 2, 3, 4, 0] rfl) hR
                      have L_175 : ∀ (n : Nat) (x4_175 : Int64) (x7_175 : Nat) (hi : x7_175 ≤ VM2) (hfu : VM2 - x7_175 < n) (H : Heap) (locs : List Loc) (hP : va_P (dC, dI) vwCl (w_M cI cJ cZ aM 0 VM1 VM2 VM3 VM4 VM5 WM0 NM0 NM1 NM2 LM0 LM1 LM2 LM3 LM4 LM5 LM6 LM7 LM8 LM9 LM10 LM11 LM12 LM13 LM14 LM15 IM0 IM1 IM2 IM3) H) (hD : va_D A (w_M cI cJ cZ aM 0 VM1 VM2 VM3 VM4 VM5 WM0 NM0 NM1 NM2 LM0 LM1 LM2 LM3 LM4 LM5 LM6 LM7 LM8 LM9 LM10 LM11 LM12 LM13 LM14 LM15 IM0 IM1 IM2 IM3)) (hS : va_S A s.heap H locs) (ls : Array Slot) (hl : lv_has ls 10 [(0, .ref (aM 0)), (1, .long x1), (3, .int x3), (4, .long x4_175), (6, .int (nI x6_153)), (7, .int (nI x7_175))]) (hR : f_Model_mass_h175 VM2 VM1 LM1 LM9 x6_153 x1 LM3 x3 LM12 k_175 n x4_175 x7_175 = r0), W p l e (headSpec u_Model_mass ({ frames := 1, cells := 0, slots := 0, locals := 25 })).room s m ([.ref (aM 0), .long x1, .int x3]).toArray below meth c H locs 0 0 (hh_Zl below (dC, dI) vwCl [(cI, .int), (cJ, .long), (cZ, .boolean)] A r0.1 (w_M cI cJ cZ aM r0.2 VM1 VM2 VM3 VM4 VM5 WM0 NM0 NM1 NM2 LM0 LM1 LM2 LM3 LM4 LM5 LM6 LM7 LM8 LM9 LM10 LM11 LM12 LM13 LM14 LM15 IM0 IM1 IM2 IM3) ([.ref (aM 0), .long x1, .int x3]).toArray s) (F0 m 175 ls []) := by
                        intro n
                        induction n with
                        | zero =>
                          intro x4_175 x7_175 hi hfu H locs hP hD hS ls hl hR
                          exact absurd hfu (Nat.not_lt_zero _)
                        | succ n ih_175 =>
                          intro x4_175 x7_175 hi hfu H locs hP hD hS ls hl hR
                          rw [f_Model_mass_h175] at hR
                          obtain ⟨rec_175, hrec_175, hR⟩ : ∃ r, r = _ ∧ f_Model_mass_h175B VM2 VM1 LM1 LM9 x6_153 x1 LM3 x3 LM12 k_175 r x4_175 x7_175 = r0 := ⟨_, rfl, hR⟩
                          unfold f_Model_mass_h175B at hR
                          refine lv_iload hx hb d_Model_mass_175 (lv_at hl 5 rfl) ?_
                          refine lv_aload_n hx hb d_Model_mass_177 rfl (lv_at hl 0 rfl) ?_
                          refine va_get (D := (dC, dI)) (ci := 5) (v := .int (nI VM2)) (C := R_Model) (T := T_Model) (N := 30) hx hb hG in_Model hown hK hP 0 rfl rfl 6 (by decide) (hG _ m_620) (fun _ h9 => h9) rfl d_Model_mass_178 ?_
                          refine hw_icmp_ge (tgt := 272) hx hb d_Model_mass_181 (by decide) (by omega) (by omega) (fun c181 => ?_) (fun c181 => ?_)
                          · replace hR := (if_pos c181).symm.trans hR
                            exact X_175 x4_175 x7_175 (by first | assumption | omega | exact hw_upb (by assumption) (by omega)) H locs hP hD hS ls (lv_sub hl [0, 1, 2, 3, 4, 5] rfl) hR
                          · replace hR := (if_neg c181).symm.trans hR
                            refine lv_aload_n hx hb d_Model_mass_184 rfl (lv_at hl 0 rfl) ?_
                            refine lv_iload hx hb d_Model_mass_185 (lv_at hl 4 rfl) ?_
                            obtain ⟨y187, hy187, hR⟩ := hw_bind hR
                            have hM := c_Model_metreOf l dC dI cI cJ cZ H.size aM 0 VM1 VM2 VM3 VM4 VM5 WM0 NM0 NM1 NM2 LM0 LM1 LM2 LM3 LM4 LM5 LM6 LM7 LM8 LM9 LM10 LM11 LM12 LM13 LM14 LM15 IM0 IM1 IM2 IM3 x6_153 (by first | assumption | omega) (by first | assumption | omega) (by first | assumption | omega)
                            rw [hy187] at hM
                            refine hw_callVl (As := [.int (nI x6_153)]) (rest := []) (wr := ([] : va_W)) ⟨hx, hb, hml, hown, hG⟩ hM (hw_cwV 1 hG m_770 m_772 mp_25 m_7 m_773 rfl rfl (by decide +kernel) ⟨Nat.le_of_ble_eq_true rfl, Nat.le_of_ble_eq_true rfl⟩) hK hP hD hS hA [0, 1, 2, 3, 4, 5, 6, 7, 8, 9, 10, 11, 12, 13, 14, 15, 16, 17, 18, 19, 20, 21, 22, 23] [] rfl rfl (by decide) (by decide) (by decide) (hw_recv hK hP 0 rfl rfl) rfl hl.1 rfl (Nat.le_of_ble_eq_true rfl) d_Model_mass_187 ⟨Nat.le_of_ble_eq_true rfl, Nat.le_of_ble_eq_true rfl⟩ (fun H locs hP hD hS => ?_)
                            have hP : va_P (dC, dI) vwCl (w_M cI cJ cZ aM 0 VM1 VM2 VM3 VM4 VM5 WM0 NM0 NM1 NM2 LM0 LM1 LM2 LM3 LM4 LM5 LM6 LM7 LM8 LM9 LM10 LM11 LM12 LM13 LM14 LM15 IM0 IM1 IM2 IM3) H := hP
                            have hD : va_D A (w_M cI cJ cZ aM 0 VM1 VM2 VM3 VM4 VM5 WM0 NM0 NM1 NM2 LM0 LM1 LM2 LM3 LM4 LM5 LM6 LM7 LM8 LM9 LM10 LM11 LM12 LM13 LM14 LM15 IM0 IM1 IM2 IM3) := hD
                            refine lv_lload_n hx hb d_Model_mass_190 rfl (lv_at hl 1 rfl) ?_
                            refine hw_lcmp_gt (tgt := 199) hx hb d_Model_mass_191 d_Model_mass_192 (by decide) (fun c191 => ?_) (fun c191 => ?_)
                            · replace hR := (if_pos c191).symm.trans hR
                              refine lv_iconst (v := nI 0) hx hb d_Model_mass_199 (by decide) ?_
                              refine lv_istore (lv' := [(8, .int (nI 0)), (0, .ref (aM 0)), (1, .long x1), (3, .int x3), (4, .long x4_175), (6, .int (nI x6_153)), (7, .int (nI x7_175))]) hx hb d_Model_mass_200 hl (by decide) rfl (fun ls hl => ?_)
                              refine lv_aload_n hx hb d_Model_mass_202 rfl (lv_at hl 1 rfl) ?_
                              refine va_get (D := (dC, dI)) (ci := 5) (v := .ref (aM 7)) (C := R_Model) (T := T_Model) (N := 30) hx hb hG in_Model hown hK hP 0 rfl rfl 9 (by decide) (hG _ m_623) (fun _ h9 => h9) rfl d_Model_mass_203 ?_
                              refine lv_iload hx hb d_Model_mass_206 (lv_at hl 6 rfl) ?_
                              refine hw_lald (f := LM3) hx hb hK hP 7 1 rfl rfl (by decide) (by omega) d_Model_mass_208 ?_
                              refine lv_lload_n hx hb d_Model_mass_209 rfl (lv_at hl 2 rfl) ?_
                              refine hw_lcmp_gt (tgt := 218) hx hb d_Model_mass_210 d_Model_mass_211 (by decide) (fun c210 => ?_) (fun c210 => ?_)
                              · replace hR := (if_pos c210).symm.trans hR
                                refine lv_iconst (v := nI 0) hx hb d_Model_mass_218 (by decide) ?_
                                refine lv_istore (lv' := [(9, .int (nI 0)), (8, .int (nI 0)), (0, .ref (aM 0)), (1, .long x1), (3, .int x3), (4, .long x4_175), (6, .int (nI x6_153)), (7, .int (nI x7_175))]) hx hb d_Model_mass_219 hl (by decide) rfl (fun ls hl => ?_)
                                refine lv_iload hx hb d_Model_mass_221 (lv_at hl 1 rfl) ?_
                                refine lv_iload hx hb d_Model_mass_223 (lv_at hl 0 rfl) ?_
                                refine hw_icmp_eq (tgt := 262) hx hb d_Model_mass_225 (by decide) (by omega) (by omega) (fun c225 => ?_) (fun c225 => ?_)
                                · replace hR := (if_pos c225).symm.trans hR
                                  refine lv_lload hx hb d_Model_mass_262 (lv_at hl 5 rfl) ?_
                                  refine lv_lstore (lv' := [(4, .long x4_175), (9, .int (nI 0)), (8, .int (nI 0)), (0, .ref (aM 0)), (1, .long x1), (3, .int x3), (6, .int (nI x6_153)), (7, .int (nI x7_175))]) hx hb d_Model_mass_264 hl (by decide) rfl (fun ls hl => ?_)
                                  refine lv_iinc (v := nI (x7_175 + 1)) (lv' := [(7, .int (nI (x7_175 + 1))), (4, .long x4_175), (9, .int (nI 0)), (8, .int (nI 0)), (0, .ref (aM 0)), (1, .long x1), (3, .int x3), (6, .int (nI x6_153))]) hx hb d_Model_mass_266 hl (k := 7) rfl (hw_inc _ 1) (by decide) rfl (fun ls hl => ?_)
                                  refine lv_goto (tgt := 175) hx hb d_Model_mass_269 (by decide) ?_
                                  rw [hrec_175] at hR
                                  exact ih_175 x4_175 (x7_175 + 1) (by first | assumption | omega | exact hw_upb (by assumption) (by omega)) (by omega) H locs hP hD hS ls (lv_sub hl [4, 5, 6, 1, 7, 0] rfl) hR
                                · replace hR := (if_neg c225).symm.trans hR
                                  refine lv_iload hx hb d_Model_mass_228 (lv_at hl 1 rfl) ?_
                                  refine lv_iload_n hx hb d_Model_mass_230 rfl (lv_at hl 4 rfl) ?_
                                  refine lv_iconst (v := nI 2) hx hb d_Model_mass_231 (by decide) ?_
                                  refine lv_icmp_ne (tgt := 239) hx hb d_Model_mass_232 (by decide) (fun c232 => ?_) (fun c232 => ?_)
                                  · replace hR := (if_neg c232).symm.trans hR
                                    refine lv_iconst (v := nI 0) hx hb d_Model_mass_239 (by decide) ?_
                                    refine hw_icmp_ne (tgt := 262) hx hb d_Model_mass_240 (by decide) (by omega) (by omega) (fun c240 => ?_) (fun c240 => ?_)
                                    · replace hR := (if_neg c240).symm.trans hR
                                      refine lv_lload hx hb d_Model_mass_262 (lv_at hl 5 rfl) ?_
                                      refine lv_lstore (lv' := [(4, .long x4_175), (9, .int (nI 0)), (8, .int (nI 0)), (0, .ref (aM 0)), (1, .long x1), (3, .int x3), (6, .int (nI x6_153)), (7, .int (nI x7_175))]) hx hb d_Model_mass_264 hl (by decide) rfl (fun ls hl => ?_)
                                      refine lv_iinc (v := nI (x7_175 + 1)) (lv' := [(7, .int (nI (x7_175 + 1))), (4, .long x4_175), (9, .int (nI 0)), (8, .int (nI 0)), (0, .ref (aM 0)), (1, .long x1), (3, .int x3), (6, .int (nI x6_153))]) hx hb d_Model_mass_266 hl (k := 7) rfl (hw_inc _ 1) (by decide) rfl (fun ls hl => ?_)
                                      refine lv_goto (tgt := 175) hx hb d_Model_mass_269 (by decide) ?_
                                      rw [hrec_175] at hR
                                      exact ih_175 x4_175 (x7_175 + 1) (by first | assumption | omega | exact hw_upb (by assumption) (by omega)) (by omega) H locs hP hD hS ls (lv_sub hl [4, 5, 6, 1, 7, 0] rfl) hR
                                    · replace hR := (if_pos c240).symm.trans hR
                                      refine lv_lload hx hb d_Model_mass_243 (lv_at hl 5 rfl) ?_
                                      refine lv_aload_n hx hb d_Model_mass_245 rfl (lv_at hl 2 rfl) ?_
                                      refine va_get (D := (dC, dI)) (ci := 5) (v := .ref (aM 18)) (C := R_Model) (T := T_Model) (N := 30) hx hb hG in_Model hown hK hP 0 rfl rfl 23 (by decide) (hG _ m_637) (fun _ h9 => h9) rfl d_Model_mass_246 ?_
                                      refine lv_bipush (v := nI 8) hx hb d_Model_mass_249 (by decide) ?_
                                      refine lv_iload hx hb d_Model_mass_251 (lv_at hl 6 rfl) ?_
                                      refine hw_imul hx hb d_Model_mass_253 ?_
                                      refine lv_iload hx hb d_Model_mass_254 (lv_at hl 7 rfl) ?_
                                      refine hw_iadd hx hb d_Model_mass_256 ?_
                                      refine hw_lald (f := LM12) hx hb hK hP 18 1 rfl rfl (by decide) (by omega) d_Model_mass_257 ?_
                                      refine lv_ladd hx hb d_Model_mass_258 ?_
                                      refine lv_goto (tgt := 264) hx hb d_Model_mass_259 (by decide) ?_
                                      refine lv_lstore (lv' := [(4, .long (x4_175 + (LM12 ((8 * x6_153) + x7_175)))), (9, .int (nI 0)), (8, .int (nI 0)), (0, .ref (aM 0)), (1, .long x1), (3, .int x3), (6, .int (nI x6_153)), (7, .int (nI x7_175))]) hx hb d_Model_mass_264 hl (by decide) rfl (fun ls hl => ?_)
                                      refine lv_iinc (v := nI (x7_175 + 1)) (lv' := [(7, .int (nI (x7_175 + 1))), (4, .long (x4_175 + (LM12 ((8 * x6_153) + x7_175)))), (9, .int (nI 0)), (8, .int (nI 0)), (0, .ref (aM 0)), (1, .long x1), (3, .int x3), (6, .int (nI x6_153))]) hx hb d_Model_mass_266 hl (k := 7) rfl (hw_inc _ 1) (by decide) rfl (fun ls hl => ?_)
                                      refine lv_goto (tgt := 175) hx hb d_Model_mass_269 (by decide) ?_
                                      rw [hrec_175] at hR
                                      exact ih_175 (x4_175 + (LM12 ((8 * x6_153) + x7_175))) (x7_175 + 1) (by first | assumption | omega | exact hw_upb (by assumption) (by omega)) (by omega) H locs hP hD hS ls (lv_sub hl [4, 5, 6, 1, 7, 0] rfl) hR
                                  · replace hR := (if_pos c232).symm.trans hR
                                    refine lv_iconst (v := nI 1) hx hb d_Model_mass_235 (by decide) ?_
                                    refine lv_goto (tgt := 240) hx hb d_Model_mass_236 (by decide) ?_
                                    refine hw_icmp_ne (tgt := 262) hx hb d_Model_mass_240 (by decide) (by omega) (by omega) (fun c240 => ?_) (fun c240 => ?_)
                                    · replace hR := (if_neg c240).symm.trans hR
                                      refine lv_lload hx hb d_Model_mass_262 (lv_at hl 5 rfl) ?_
                                      refine lv_lstore (lv' := [(4, .long x4_175), (9, .int (nI 0)), (8, .int (nI 0)), (0, .ref (aM 0)), (1, .long x1), (3, .int x3), (6, .int (nI x6_153)), (7, .int (nI x7_175))]) hx hb d_Model_mass_264 hl (by decide) rfl (fun ls hl => ?_)
                                      refine lv_iinc (v := nI (x7_175 + 1)) (lv' := [(7, .int (nI (x7_175 + 1))), (4, .long x4_175), (9, .int (nI 0)), (8, .int (nI 0)), (0, .ref (aM 0)), (1, .long x1), (3, .int x3), (6, .int (nI x6_153))]) hx hb d_Model_mass_266 hl (k := 7) rfl (hw_inc _ 1) (by decide) rfl (fun ls hl => ?_)
                                      refine lv_goto (tgt := 175) hx hb d_Model_mass_269 (by decide) ?_
                                      rw [hrec_175] at hR
                                      exact ih_175 x4_175 (x7_175 + 1) (by first | assumption | omega | exact hw_upb (by assumption) (by omega)) (by omega) H locs hP hD hS ls (lv_sub hl [4, 5, 6, 1, 7, 0] rfl) hR
                                    · replace hR := (if_pos c240).symm.trans hR
                                      refine lv_lload hx hb d_Model_mass_243 (lv_at hl 5 rfl) ?_
                                      refine lv_aload_n hx hb d_Model_mass_245 rfl (lv_at hl 2 rfl) ?_
                                      refine va_get (D := (dC, dI)) (ci := 5) (v := .ref (aM 18)) (C := R_Model) (T := T_Model) (N := 30) hx hb hG in_Model hown hK hP 0 rfl rfl 23 (by decide) (hG _ m_637) (fun _ h9 => h9) rfl d_Model_mass_246 ?_
                                      refine lv_bipush (v := nI 8) hx hb d_Model_mass_249 (by decide) ?_
                                      refine lv_iload hx hb d_Model_mass_251 (lv_at hl 6 rfl) ?_
                                      refine hw_imul hx hb d_Model_mass_253 ?_
                                      refine lv_iload hx hb d_Model_mass_254 (lv_at hl 7 rfl) ?_
                                      refine hw_iadd hx hb d_Model_mass_256 ?_
                                      refine hw_lald (f := LM12) hx hb hK hP 18 1 rfl rfl (by decide) (by omega) d_Model_mass_257 ?_
                                      refine lv_ladd hx hb d_Model_mass_258 ?_
                                      refine lv_goto (tgt := 264) hx hb d_Model_mass_259 (by decide) ?_
                                      refine lv_lstore (lv' := [(4, .long (x4_175 + (LM12 ((8 * x6_153) + x7_175)))), (9, .int (nI 0)), (8, .int (nI 0)), (0, .ref (aM 0)), (1, .long x1), (3, .int x3), (6, .int (nI x6_153)), (7, .int (nI x7_175))]) hx hb d_Model_mass_264 hl (by decide) rfl (fun ls hl => ?_)
                                      refine lv_iinc (v := nI (x7_175 + 1)) (lv' := [(7, .int (nI (x7_175 + 1))), (4, .long (x4_175 + (LM12 ((8 * x6_153) + x7_175)))), (9, .int (nI 0)), (8, .int (nI 0)), (0, .ref (aM 0)), (1, .long x1), (3, .int x3), (6, .int (nI x6_153))]) hx hb d_Model_mass_266 hl (k := 7) rfl (hw_inc _ 1) (by decide) rfl (fun ls hl => ?_)
                                      refine lv_goto (tgt := 175) hx hb d_Model_mass_269 (by decide) ?_
                                      rw [hrec_175] at hR
                                      exact ih_175 (x4_175 + (LM12 ((8 * x6_153) + x7_175))) (x7_175 + 1) (by first | assumption | omega | exact hw_upb (by assumption) (by omega)) (by omega) H locs hP hD hS ls (lv_sub hl [4, 5, 6, 1, 7, 0] rfl) hR
                              · replace hR := (if_neg c210).symm.trans hR
                                refine lv_iconst (v := nI 1) hx hb d_Model_mass_214 (by decide) ?_
                                refine lv_goto (tgt := 219) hx hb d_Model_mass_215 (by decide) ?_
                                refine lv_istore (lv' := [(9, .int (nI 1)), (8, .int (nI 0)), (0, .ref (aM 0)), (1, .long x1), (3, .int x3), (4, .long x4_175), (6, .int (nI x6_153)), (7, .int (nI x7_175))]) hx hb d_Model_mass_219 hl (by decide) rfl (fun ls hl => ?_)
                                refine lv_iload hx hb d_Model_mass_221 (lv_at hl 1 rfl) ?_
                                refine lv_iload hx hb d_Model_mass_223 (lv_at hl 0 rfl) ?_
                                refine hw_icmp_eq (tgt := 262) hx hb d_Model_mass_225 (by decide) (by omega) (by omega) (fun c225 => ?_) (fun c225 => ?_)
                                · replace hR := (if_pos c225).symm.trans hR
                                  refine lv_lload hx hb d_Model_mass_262 (lv_at hl 5 rfl) ?_
                                  refine lv_lstore (lv' := [(4, .long x4_175), (9, .int (nI 1)), (8, .int (nI 0)), (0, .ref (aM 0)), (1, .long x1), (3, .int x3), (6, .int (nI x6_153)), (7, .int (nI x7_175))]) hx hb d_Model_mass_264 hl (by decide) rfl (fun ls hl => ?_)
                                  refine lv_iinc (v := nI (x7_175 + 1)) (lv' := [(7, .int (nI (x7_175 + 1))), (4, .long x4_175), (9, .int (nI 1)), (8, .int (nI 0)), (0, .ref (aM 0)), (1, .long x1), (3, .int x3), (6, .int (nI x6_153))]) hx hb d_Model_mass_266 hl (k := 7) rfl (hw_inc _ 1) (by decide) rfl (fun ls hl => ?_)
                                  refine lv_goto (tgt := 175) hx hb d_Model_mass_269 (by decide) ?_
                                  rw [hrec_175] at hR
                                  exact ih_175 x4_175 (x7_175 + 1) (by first | assumption | omega | exact hw_upb (by assumption) (by omega)) (by omega) H locs hP hD hS ls (lv_sub hl [4, 5, 6, 1, 7, 0] rfl) hR
                                · replace hR := (if_neg c225).symm.trans hR
                                  refine lv_iload hx hb d_Model_mass_228 (lv_at hl 1 rfl) ?_
                                  refine lv_iload_n hx hb d_Model_mass_230 rfl (lv_at hl 4 rfl) ?_
                                  refine lv_iconst (v := nI 2) hx hb d_Model_mass_231 (by decide) ?_
                                  refine lv_icmp_ne (tgt := 239) hx hb d_Model_mass_232 (by decide) (fun c232 => ?_) (fun c232 => ?_)
                                  · replace hR := (if_neg c232).symm.trans hR
                                    refine lv_iconst (v := nI 0) hx hb d_Model_mass_239 (by decide) ?_
                                    refine hw_icmp_ne (tgt := 262) hx hb d_Model_mass_240 (by decide) (by omega) (by omega) (fun c240 => ?_) (fun c240 => ?_)
                                    · replace hR := (if_neg c240).symm.trans hR
                                      refine lv_lload hx hb d_Model_mass_262 (lv_at hl 5 rfl) ?_
                                      refine lv_lstore (lv' := [(4, .long x4_175), (9, .int (nI 1)), (8, .int (nI 0)), (0, .ref (aM 0)), (1, .long x1), (3, .int x3), (6, .int (nI x6_153)), (7, .int (nI x7_175))]) hx hb d_Model_mass_264 hl (by decide) rfl (fun ls hl => ?_)
                                      refine lv_iinc (v := nI (x7_175 + 1)) (lv' := [(7, .int (nI (x7_175 + 1))), (4, .long x4_175), (9, .int (nI 1)), (8, .int (nI 0)), (0, .ref (aM 0)), (1, .long x1), (3, .int x3), (6, .int (nI x6_153))]) hx hb d_Model_mass_266 hl (k := 7) rfl (hw_inc _ 1) (by decide) rfl (fun ls hl => ?_)
                                      refine lv_goto (tgt := 175) hx hb d_Model_mass_269 (by decide) ?_
                                      rw [hrec_175] at hR
                                      exact ih_175 x4_175 (x7_175 + 1) (by first | assumption | omega | exact hw_upb (by assumption) (by omega)) (by omega) H locs hP hD hS ls (lv_sub hl [4, 5, 6, 1, 7, 0] rfl) hR
                                    · replace hR := (if_pos c240).symm.trans hR
                                      refine lv_lload hx hb d_Model_mass_243 (lv_at hl 5 rfl) ?_
                                      refine lv_aload_n hx hb d_Model_mass_245 rfl (lv_at hl 2 rfl) ?_
                                      refine va_get (D := (dC, dI)) (ci := 5) (v := .ref (aM 18)) (C := R_Model) (T := T_Model) (N := 30) hx hb hG in_Model hown hK hP 0 rfl rfl 23 (by decide) (hG _ m_637) (fun _ h9 => h9) rfl d_Model_mass_246 ?_
                                      refine lv_bipush (v := nI 8) hx hb d_Model_mass_249 (by decide) ?_
                                      refine lv_iload hx hb d_Model_mass_251 (lv_at hl 6 rfl) ?_
                                      refine hw_imul hx hb d_Model_mass_253 ?_
                                      refine lv_iload hx hb d_Model_mass_254 (lv_at hl 7 rfl) ?_
                                      refine hw_iadd hx hb d_Model_mass_256 ?_
                                      refine hw_lald (f := LM12) hx hb hK hP 18 1 rfl rfl (by decide) (by omega) d_Model_mass_257 ?_
                                      refine lv_ladd hx hb d_Model_mass_258 ?_
                                      refine lv_goto (tgt := 264) hx hb d_Model_mass_259 (by decide) ?_
                                      refine lv_lstore (lv' := [(4, .long (x4_175 + (LM12 ((8 * x6_153) + x7_175)))), (9, .int (nI 1)), (8, .int (nI 0)), (0, .ref (aM 0)), (1, .long x1), (3, .int x3), (6, .int (nI x6_153)), (7, .int (nI x7_175))]) hx hb d_Model_mass_264 hl (by decide) rfl (fun ls hl => ?_)
                                      refine lv_iinc (v := nI (x7_175 + 1)) (lv' := [(7, .int (nI (x7_175 + 1))), (4, .long (x4_175 + (LM12 ((8 * x6_153) + x7_175)))), (9, .int (nI 1)), (8, .int (nI 0)), (0, .ref (aM 0)), (1, .long x1), (3, .int x3), (6, .int (nI x6_153))]) hx hb d_Model_mass_266 hl (k := 7) rfl (hw_inc _ 1) (by decide) rfl (fun ls hl => ?_)
                                      refine lv_goto (tgt := 175) hx hb d_Model_mass_269 (by decide) ?_
                                      rw [hrec_175] at hR
                                      exact ih_175 (x4_175 + (LM12 ((8 * x6_153) + x7_175))) (x7_175 + 1) (by first | assumption | omega | exact hw_upb (by assumption) (by omega)) (by omega) H locs hP hD hS ls (lv_sub hl [4, 5, 6, 1, 7, 0] rfl) hR
                                  · replace hR := (if_pos c232).symm.trans hR
                                    refine lv_iconst (v := nI 1) hx hb d_Model_mass_235 (by decide) ?_
                                    refine lv_goto (tgt := 240) hx hb d_Model_mass_236 (by decide) ?_
                                    refine hw_icmp_ne (tgt := 262) hx hb d_Model_mass_240 (by decide) (by omega) (by omega) (fun c240 => ?_) (fun c240 => ?_)
                                    · replace hR := (if_neg c240).symm.trans hR
                                      refine lv_lload hx hb d_Model_mass_262 (lv_at hl 5 rfl) ?_
                                      refine lv_lstore (lv' := [(4, .long x4_175), (9, .int (nI 1)), (8, .int (nI 0)), (0, .ref (aM 0)), (1, .long x1), (3, .int x3), (6, .int (nI x6_153)), (7, .int (nI x7_175))]) hx hb d_Model_mass_264 hl (by decide) rfl (fun ls hl => ?_)
                                      refine lv_iinc (v := nI (x7_175 + 1)) (lv' := [(7, .int (nI (x7_175 + 1))), (4, .long x4_175), (9, .int (nI 1)), (8, .int (nI 0)), (0, .ref (aM 0)), (1, .long x1), (3, .int x3), (6, .int (nI x6_153))]) hx hb d_Model_mass_266 hl (k := 7) rfl (hw_inc _ 1) (by decide) rfl (fun ls hl => ?_)
                                      refine lv_goto (tgt := 175) hx hb d_Model_mass_269 (by decide) ?_
                                      rw [hrec_175] at hR
                                      exact ih_175 x4_175 (x7_175 + 1) (by first | assumption | omega | exact hw_upb (by assumption) (by omega)) (by omega) H locs hP hD hS ls (lv_sub hl [4, 5, 6, 1, 7, 0] rfl) hR
                                    · replace hR := (if_pos c240).symm.trans hR
                                      refine lv_lload hx hb d_Model_mass_243 (lv_at hl 5 rfl) ?_
                                      refine lv_aload_n hx hb d_Model_mass_245 rfl (lv_at hl 2 rfl) ?_
                                      refine va_get (D := (dC, dI)) (ci := 5) (v := .ref (aM 18)) (C := R_Model) (T := T_Model) (N := 30) hx hb hG in_Model hown hK hP 0 rfl rfl 23 (by decide) (hG _ m_637) (fun _ h9 => h9) rfl d_Model_mass_246 ?_
                                      refine lv_bipush (v := nI 8) hx hb d_Model_mass_249 (by decide) ?_
                                      refine lv_iload hx hb d_Model_mass_251 (lv_at hl 6 rfl) ?_
                                      refine hw_imul hx hb d_Model_mass_253 ?_
                                      refine lv_iload hx hb d_Model_mass_254 (lv_at hl 7 rfl) ?_
                                      refine hw_iadd hx hb d_Model_mass_256 ?_
                                      refine hw_lald (f := LM12) hx hb hK hP 18 1 rfl rfl (by decide) (by omega) d_Model_mass_257 ?_
                                      refine lv_ladd hx hb d_Model_mass_258 ?_
                                      refine lv_goto (tgt := 264) hx hb d_Model_mass_259 (by decide) ?_
                                      refine lv_lstore (lv' := [(4, .long (x4_175 + (LM12 ((8 * x6_153) + x7_175)))), (9, .int (nI 1)), (8, .int (nI 0)), (0, .ref (aM 0)), (1, .long x1), (3, .int x3), (6, .int (nI x6_153)), (7, .int (nI x7_175))]) hx hb d_Model_mass_264 hl (by decide) rfl (fun ls hl => ?_)
                                      refine lv_iinc (v := nI (x7_175 + 1)) (lv' := [(7, .int (nI (x7_175 + 1))), (4, .long (x4_175 + (LM12 ((8 * x6_153) + x7_175)))), (9, .int (nI 1)), (8, .int (nI 0)), (0, .ref (aM 0)), (1, .long x1), (3, .int x3), (6, .int (nI x6_153))]) hx hb d_Model_mass_266 hl (k := 7) rfl (hw_inc _ 1) (by decide) rfl (fun ls hl => ?_)
                                      refine lv_goto (tgt := 175) hx hb d_Model_mass_269 (by decide) ?_
                                      rw [hrec_175] at hR
                                      exact ih_175 (x4_175 + (LM12 ((8 * x6_153) + x7_175))) (x7_175 + 1) (by first | assumption | omega | exact hw_upb (by assumption) (by omega)) (by omega) H locs hP hD hS ls (lv_sub hl [4, 5, 6, 1, 7, 0] rfl) hR
                            · replace hR := (if_neg c191).symm.trans hR
                              refine lv_iconst (v := nI 1) hx hb d_Model_mass_195 (by decide) ?_
                              refine lv_goto (tgt := 200) hx hb d_Model_mass_196 (by decide) ?_
                              refine lv_istore (lv' := [(8, .int (nI 1)), (0, .ref (aM 0)), (1, .long x1), (3, .int x3), (4, .long x4_175), (6, .int (nI x6_153)), (7, .int (nI x7_175))]) hx hb d_Model_mass_200 hl (by decide) rfl (fun ls hl => ?_)
                              refine lv_aload_n hx hb d_Model_mass_202 rfl (lv_at hl 1 rfl) ?_
                              refine va_get (D := (dC, dI)) (ci := 5) (v := .ref (aM 7)) (C := R_Model) (T := T_Model) (N := 30) hx hb hG in_Model hown hK hP 0 rfl rfl 9 (by decide) (hG _ m_623) (fun _ h9 => h9) rfl d_Model_mass_203 ?_
                              refine lv_iload hx hb d_Model_mass_206 (lv_at hl 6 rfl) ?_
                              refine hw_lald (f := LM3) hx hb hK hP 7 1 rfl rfl (by decide) (by omega) d_Model_mass_208 ?_
                              refine lv_lload_n hx hb d_Model_mass_209 rfl (lv_at hl 2 rfl) ?_
                              refine hw_lcmp_gt (tgt := 218) hx hb d_Model_mass_210 d_Model_mass_211 (by decide) (fun c210 => ?_) (fun c210 => ?_)
                              · replace hR := (if_pos c210).symm.trans hR
                                refine lv_iconst (v := nI 0) hx hb d_Model_mass_218 (by decide) ?_
                                refine lv_istore (lv' := [(9, .int (nI 0)), (8, .int (nI 1)), (0, .ref (aM 0)), (1, .long x1), (3, .int x3), (4, .long x4_175), (6, .int (nI x6_153)), (7, .int (nI x7_175))]) hx hb d_Model_mass_219 hl (by decide) rfl (fun ls hl => ?_)
                                refine lv_iload hx hb d_Model_mass_221 (lv_at hl 1 rfl) ?_
                                refine lv_iload hx hb d_Model_mass_223 (lv_at hl 0 rfl) ?_
                                refine hw_icmp_eq (tgt := 262) hx hb d_Model_mass_225 (by decide) (by omega) (by omega) (fun c225 => ?_) (fun c225 => ?_)
                                · replace hR := (if_pos c225).symm.trans hR
                                  refine lv_lload hx hb d_Model_mass_262 (lv_at hl 5 rfl) ?_
                                  refine lv_lstore (lv' := [(4, .long x4_175), (9, .int (nI 0)), (8, .int (nI 1)), (0, .ref (aM 0)), (1, .long x1), (3, .int x3), (6, .int (nI x6_153)), (7, .int (nI x7_175))]) hx hb d_Model_mass_264 hl (by decide) rfl (fun ls hl => ?_)
                                  refine lv_iinc (v := nI (x7_175 + 1)) (lv' := [(7, .int (nI (x7_175 + 1))), (4, .long x4_175), (9, .int (nI 0)), (8, .int (nI 1)), (0, .ref (aM 0)), (1, .long x1), (3, .int x3), (6, .int (nI x6_153))]) hx hb d_Model_mass_266 hl (k := 7) rfl (hw_inc _ 1) (by decide) rfl (fun ls hl => ?_)
                                  refine lv_goto (tgt := 175) hx hb d_Model_mass_269 (by decide) ?_
                                  rw [hrec_175] at hR
                                  exact ih_175 x4_175 (x7_175 + 1) (by first | assumption | omega | exact hw_upb (by assumption) (by omega)) (by omega) H locs hP hD hS ls (lv_sub hl [4, 5, 6, 1, 7, 0] rfl) hR
                                · replace hR := (if_neg c225).symm.trans hR
                                  refine lv_iload hx hb d_Model_mass_228 (lv_at hl 1 rfl) ?_
                                  refine lv_iload_n hx hb d_Model_mass_230 rfl (lv_at hl 4 rfl) ?_
                                  refine lv_iconst (v := nI 2) hx hb d_Model_mass_231 (by decide) ?_
                                  refine lv_icmp_ne (tgt := 239) hx hb d_Model_mass_232 (by decide) (fun c232 => ?_) (fun c232 => ?_)
                                  · replace hR := (if_neg c232).symm.trans hR
                                    refine lv_iconst (v := nI 0) hx hb d_Model_mass_239 (by decide) ?_
                                    refine hw_icmp_ne (tgt := 262) hx hb d_Model_mass_240 (by decide) (by omega) (by omega) (fun c240 => ?_) (fun c240 => ?_)
                                    · replace hR := (if_neg c240).symm.trans hR
                                      refine lv_lload hx hb d_Model_mass_262 (lv_at hl 5 rfl) ?_
                                      refine lv_lstore (lv' := [(4, .long x4_175), (9, .int (nI 0)), (8, .int (nI 1)), (0, .ref (aM 0)), (1, .long x1), (3, .int x3), (6, .int (nI x6_153)), (7, .int (nI x7_175))]) hx hb d_Model_mass_264 hl (by decide) rfl (fun ls hl => ?_)
                                      refine lv_iinc (v := nI (x7_175 + 1)) (lv' := [(7, .int (nI (x7_175 + 1))), (4, .long x4_175), (9, .int (nI 0)), (8, .int (nI 1)), (0, .ref (aM 0)), (1, .long x1), (3, .int x3), (6, .int (nI x6_153))]) hx hb d_Model_mass_266 hl (k := 7) rfl (hw_inc _ 1) (by decide) rfl (fun ls hl => ?_)
                                      refine lv_goto (tgt := 175) hx hb d_Model_mass_269 (by decide) ?_
                                      rw [hrec_175] at hR
                                      exact ih_175 x4_175 (x7_175 + 1) (by first | assumption | omega | exact hw_upb (by assumption) (by omega)) (by omega) H locs hP hD hS ls (lv_sub hl [4, 5, 6, 1, 7, 0] rfl) hR
                                    · replace hR := (if_pos c240).symm.trans hR
                                      refine lv_lload hx hb d_Model_mass_243 (lv_at hl 5 rfl) ?_
                                      refine lv_aload_n hx hb d_Model_mass_245 rfl (lv_at hl 2 rfl) ?_
                                      refine va_get (D := (dC, dI)) (ci := 5) (v := .ref (aM 18)) (C := R_Model) (T := T_Model) (N := 30) hx hb hG in_Model hown hK hP 0 rfl rfl 23 (by decide) (hG _ m_637) (fun _ h9 => h9) rfl d_Model_mass_246 ?_
                                      refine lv_bipush (v := nI 8) hx hb d_Model_mass_249 (by decide) ?_
                                      refine lv_iload hx hb d_Model_mass_251 (lv_at hl 6 rfl) ?_
                                      refine hw_imul hx hb d_Model_mass_253 ?_
                                      refine lv_iload hx hb d_Model_mass_254 (lv_at hl 7 rfl) ?_
                                      refine hw_iadd hx hb d_Model_mass_256 ?_
                                      refine hw_lald (f := LM12) hx hb hK hP 18 1 rfl rfl (by decide) (by omega) d_Model_mass_257 ?_
                                      refine lv_ladd hx hb d_Model_mass_258 ?_
                                      refine lv_goto (tgt := 264) hx hb d_Model_mass_259 (by decide) ?_
                                      refine lv_lstore (lv' := [(4, .long (x4_175 + (LM12 ((8 * x6_153) + x7_175)))), (9, .int (nI 0)), (8, .int (nI 1)), (0, .ref (aM 0)), (1, .long x1), (3, .int x3), (6, .int (nI x6_153)), (7, .int (nI x7_175))]) hx hb d_Model_mass_264 hl (by decide) rfl (fun ls hl => ?_)
                                      refine lv_iinc (v := nI (x7_175 + 1)) (lv' := [(7, .int (nI (x7_175 + 1))), (4, .long (x4_175 + (LM12 ((8 * x6_153) + x7_175)))), (9, .int (nI 0)), (8, .int (nI 1)), (0, .ref (aM 0)), (1, .long x1), (3, .int x3), (6, .int (nI x6_153))]) hx hb d_Model_mass_266 hl (k := 7) rfl (hw_inc _ 1) (by decide) rfl (fun ls hl => ?_)
                                      refine lv_goto (tgt := 175) hx hb d_Model_mass_269 (by decide) ?_
                                      rw [hrec_175] at hR
                                      exact ih_175 (x4_175 + (LM12 ((8 * x6_153) + x7_175))) (x7_175 + 1) (by first | assumption | omega | exact hw_upb (by assumption) (by omega)) (by omega) H locs hP hD hS ls (lv_sub hl [4, 5, 6, 1, 7, 0] rfl) hR
                                  · replace hR := (if_pos c232).symm.trans hR
                                    refine lv_iconst (v := nI 1) hx hb d_Model_mass_235 (by decide) ?_
                                    refine lv_goto (tgt := 240) hx hb d_Model_mass_236 (by decide) ?_
                                    refine hw_icmp_ne (tgt := 262) hx hb d_Model_mass_240 (by decide) (by omega) (by omega) (fun c240 => ?_) (fun c240 => ?_)
                                    · replace hR := (if_neg c240).symm.trans hR
                                      refine lv_lload hx hb d_Model_mass_262 (lv_at hl 5 rfl) ?_
                                      refine lv_lstore (lv' := [(4, .long x4_175), (9, .int (nI 0)), (8, .int (nI 1)), (0, .ref (aM 0)), (1, .long x1), (3, .int x3), (6, .int (nI x6_153)), (7, .int (nI x7_175))]) hx hb d_Model_mass_264 hl (by decide) rfl (fun ls hl => ?_)
                                      refine lv_iinc (v := nI (x7_175 + 1)) (lv' := [(7, .int (nI (x7_175 + 1))), (4, .long x4_175), (9, .int (nI 0)), (8, .int (nI 1)), (0, .ref (aM 0)), (1, .long x1), (3, .int x3), (6, .int (nI x6_153))]) hx hb d_Model_mass_266 hl (k := 7) rfl (hw_inc _ 1) (by decide) rfl (fun ls hl => ?_)
                                      refine lv_goto (tgt := 175) hx hb d_Model_mass_269 (by decide) ?_
                                      rw [hrec_175] at hR
                                      exact ih_175 x4_175 (x7_175 + 1) (by first | assumption | omega | exact hw_upb (by assumption) (by omega)) (by omega) H locs hP hD hS ls (lv_sub hl [4, 5, 6, 1, 7, 0] rfl) hR
                                    · replace hR := (if_pos c240).symm.trans hR
                                      refine lv_lload hx hb d_Model_mass_243 (lv_at hl 5 rfl) ?_
                                      refine lv_aload_n hx hb d_Model_mass_245 rfl (lv_at hl 2 rfl) ?_
                                      refine va_get (D := (dC, dI)) (ci := 5) (v := .ref (aM 18)) (C := R_Model) (T := T_Model) (N := 30) hx hb hG in_Model hown hK hP 0 rfl rfl 23 (by decide) (hG _ m_637) (fun _ h9 => h9) rfl d_Model_mass_246 ?_
                                      refine lv_bipush (v := nI 8) hx hb d_Model_mass_249 (by decide) ?_
                                      refine lv_iload hx hb d_Model_mass_251 (lv_at hl 6 rfl) ?_
                                      refine hw_imul hx hb d_Model_mass_253 ?_
                                      refine lv_iload hx hb d_Model_mass_254 (lv_at hl 7 rfl) ?_
                                      refine hw_iadd hx hb d_Model_mass_256 ?_
                                      refine hw_lald (f := LM12) hx hb hK hP 18 1 rfl rfl (by decide) (by omega) d_Model_mass_257 ?_
                                      refine lv_ladd hx hb d_Model_mass_258 ?_
                                      refine lv_goto (tgt := 264) hx hb d_Model_mass_259 (by decide) ?_
                                      refine lv_lstore (lv' := [(4, .long (x4_175 + (LM12 ((8 * x6_153) + x7_175)))), (9, .int (nI 0)), (8, .int (nI 1)), (0, .ref (aM 0)), (1, .long x1), (3, .int x3), (6, .int (nI x6_153)), (7, .int (nI x7_175))]) hx hb d_Model_mass_264 hl (by decide) rfl (fun ls hl => ?_)
                                      refine lv_iinc (v := nI (x7_175 + 1)) (lv' := [(7, .int (nI (x7_175 + 1))), (4, .long (x4_175 + (LM12 ((8 * x6_153) + x7_175)))), (9, .int (nI 0)), (8, .int (nI 1)), (0, .ref (aM 0)), (1, .long x1), (3, .int x3), (6, .int (nI x6_153))]) hx hb d_Model_mass_266 hl (k := 7) rfl (hw_inc _ 1) (by decide) rfl (fun ls hl => ?_)
                                      refine lv_goto (tgt := 175) hx hb d_Model_mass_269 (by decide) ?_
                                      rw [hrec_175] at hR
                                      exact ih_175 (x4_175 + (LM12 ((8 * x6_153) + x7_175))) (x7_175 + 1) (by first | assumption | omega | exact hw_upb (by assumption) (by omega)) (by omega) H locs hP hD hS ls (lv_sub hl [4, 5, 6, 1, 7, 0] rfl) hR
                              · replace hR := (if_neg c210).symm.trans hR
                                refine lv_iconst (v := nI 1) hx hb d_Model_mass_214 (by decide) ?_
                                refine lv_goto (tgt := 219) hx hb d_Model_mass_215 (by decide) ?_
                                refine lv_istore (lv' := [(9, .int (nI 1)), (8, .int (nI 1)), (0, .ref (aM 0)), (1, .long x1), (3, .int x3), (4, .long x4_175), (6, .int (nI x6_153)), (7, .int (nI x7_175))]) hx hb d_Model_mass_219 hl (by decide) rfl (fun ls hl => ?_)
                                refine lv_iload hx hb d_Model_mass_221 (lv_at hl 1 rfl) ?_
                                refine lv_iload hx hb d_Model_mass_223 (lv_at hl 0 rfl) ?_
                                refine hw_icmp_eq (tgt := 262) hx hb d_Model_mass_225 (by decide) (by omega) (by omega) (fun c225 => ?_) (fun c225 => ?_)
                                · replace hR := (if_pos c225).symm.trans hR
                                  refine lv_lload hx hb d_Model_mass_262 (lv_at hl 5 rfl) ?_
                                  refine lv_lstore (lv' := [(4, .long x4_175), (9, .int (nI 1)), (8, .int (nI 1)), (0, .ref (aM 0)), (1, .long x1), (3, .int x3), (6, .int (nI x6_153)), (7, .int (nI x7_175))]) hx hb d_Model_mass_264 hl (by decide) rfl (fun ls hl => ?_)
                                  refine lv_iinc (v := nI (x7_175 + 1)) (lv' := [(7, .int (nI (x7_175 + 1))), (4, .long x4_175), (9, .int (nI 1)), (8, .int (nI 1)), (0, .ref (aM 0)), (1, .long x1), (3, .int x3), (6, .int (nI x6_153))]) hx hb d_Model_mass_266 hl (k := 7) rfl (hw_inc _ 1) (by decide) rfl (fun ls hl => ?_)
                                  refine lv_goto (tgt := 175) hx hb d_Model_mass_269 (by decide) ?_
                                  rw [hrec_175] at hR
                                  exact ih_175 x4_175 (x7_175 + 1) (by first | assumption | omega | exact hw_upb (by assumption) (by omega)) (by omega) H locs hP hD hS ls (lv_sub hl [4, 5, 6, 1, 7, 0] rfl) hR
                                · replace hR := (if_neg c225).symm.trans hR
                                  refine lv_iload hx hb d_Model_mass_228 (lv_at hl 1 rfl) ?_
                                  refine lv_iload_n hx hb d_Model_mass_230 rfl (lv_at hl 4 rfl) ?_
                                  refine lv_iconst (v := nI 2) hx hb d_Model_mass_231 (by decide) ?_
                                  refine lv_icmp_ne (tgt := 239) hx hb d_Model_mass_232 (by decide) (fun c232 => ?_) (fun c232 => ?_)
                                  · replace hR := (if_neg c232).symm.trans hR
                                    refine lv_iconst (v := nI 0) hx hb d_Model_mass_239 (by decide) ?_
                                    refine hw_icmp_ne (tgt := 262) hx hb d_Model_mass_240 (by decide) (by omega) (by omega) (fun c240 => ?_) (fun c240 => ?_)
                                    · replace hR := (if_neg c240).symm.trans hR
                                      refine lv_lload hx hb d_Model_mass_262 (lv_at hl 5 rfl) ?_
                                      refine lv_lstore (lv' := [(4, .long x4_175), (9, .int (nI 1)), (8, .int (nI 1)), (0, .ref (aM 0)), (1, .long x1), (3, .int x3), (6, .int (nI x6_153)), (7, .int (nI x7_175))]) hx hb d_Model_mass_264 hl (by decide) rfl (fun ls hl => ?_)
                                      refine lv_iinc (v := nI (x7_175 + 1)) (lv' := [(7, .int (nI (x7_175 + 1))), (4, .long x4_175), (9, .int (nI 1)), (8, .int (nI 1)), (0, .ref (aM 0)), (1, .long x1), (3, .int x3), (6, .int (nI x6_153))]) hx hb d_Model_mass_266 hl (k := 7) rfl (hw_inc _ 1) (by decide) rfl (fun ls hl => ?_)
                                      refine lv_goto (tgt := 175) hx hb d_Model_mass_269 (by decide) ?_
                                      rw [hrec_175] at hR
                                      exact ih_175 x4_175 (x7_175 + 1) (by first | assumption | omega | exact hw_upb (by assumption) (by omega)) (by omega) H locs hP hD hS ls (lv_sub hl [4, 5, 6, 1, 7, 0] rfl) hR
                                    · replace hR := (if_pos c240).symm.trans hR
                                      refine lv_lload hx hb d_Model_mass_243 (lv_at hl 5 rfl) ?_
                                      refine lv_aload_n hx hb d_Model_mass_245 rfl (lv_at hl 2 rfl) ?_
                                      refine va_get (D := (dC, dI)) (ci := 5) (v := .ref (aM 18)) (C := R_Model) (T := T_Model) (N := 30) hx hb hG in_Model hown hK hP 0 rfl rfl 23 (by decide) (hG _ m_637) (fun _ h9 => h9) rfl d_Model_mass_246 ?_
                                      refine lv_bipush (v := nI 8) hx hb d_Model_mass_249 (by decide) ?_
                                      refine lv_iload hx hb d_Model_mass_251 (lv_at hl 6 rfl) ?_
                                      refine hw_imul hx hb d_Model_mass_253 ?_
                                      refine lv_iload hx hb d_Model_mass_254 (lv_at hl 7 rfl) ?_
                                      refine hw_iadd hx hb d_Model_mass_256 ?_
                                      refine hw_lald (f := LM12) hx hb hK hP 18 1 rfl rfl (by decide) (by omega) d_Model_mass_257 ?_
                                      refine lv_ladd hx hb d_Model_mass_258 ?_
                                      refine lv_goto (tgt := 264) hx hb d_Model_mass_259 (by decide) ?_
                                      refine lv_lstore (lv' := [(4, .long (x4_175 + (LM12 ((8 * x6_153) + x7_175)))), (9, .int (nI 1)), (8, .int (nI 1)), (0, .ref (aM 0)), (1, .long x1), (3, .int x3), (6, .int (nI x6_153)), (7, .int (nI x7_175))]) hx hb d_Model_mass_264 hl (by decide) rfl (fun ls hl => ?_)
                                      refine lv_iinc (v := nI (x7_175 + 1)) (lv' := [(7, .int (nI (x7_175 + 1))), (4, .long (x4_175 + (LM12 ((8 * x6_153) + x7_175)))), (9, .int (nI 1)), (8, .int (nI 1)), (0, .ref (aM 0)), (1, .long x1), (3, .int x3), (6, .int (nI x6_153))]) hx hb d_Model_mass_266 hl (k := 7) rfl (hw_inc _ 1) (by decide) rfl (fun ls hl => ?_)
                                      refine lv_goto (tgt := 175) hx hb d_Model_mass_269 (by decide) ?_
                                      rw [hrec_175] at hR
                                      exact ih_175 (x4_175 + (LM12 ((8 * x6_153) + x7_175))) (x7_175 + 1) (by first | assumption | omega | exact hw_upb (by assumption) (by omega)) (by omega) H locs hP hD hS ls (lv_sub hl [4, 5, 6, 1, 7, 0] rfl) hR
                                  · replace hR := (if_pos c232).symm.trans hR
                                    refine lv_iconst (v := nI 1) hx hb d_Model_mass_235 (by decide) ?_
                                    refine lv_goto (tgt := 240) hx hb d_Model_mass_236 (by decide) ?_
                                    refine hw_icmp_ne (tgt := 262) hx hb d_Model_mass_240 (by decide) (by omega) (by omega) (fun c240 => ?_) (fun c240 => ?_)
                                    · replace hR := (if_neg c240).symm.trans hR
                                      refine lv_lload hx hb d_Model_mass_262 (lv_at hl 5 rfl) ?_
                                      refine lv_lstore (lv' := [(4, .long x4_175), (9, .int (nI 1)), (8, .int (nI 1)), (0, .ref (aM 0)), (1, .long x1), (3, .int x3), (6, .int (nI x6_153)), (7, .int (nI x7_175))]) hx hb d_Model_mass_264 hl (by decide) rfl (fun ls hl => ?_)
                                      refine lv_iinc (v := nI (x7_175 + 1)) (lv' := [(7, .int (nI (x7_175 + 1))), (4, .long x4_175), (9, .int (nI 1)), (8, .int (nI 1)), (0, .ref (aM 0)), (1, .long x1), (3, .int x3), (6, .int (nI x6_153))]) hx hb d_Model_mass_266 hl (k := 7) rfl (hw_inc _ 1) (by decide) rfl (fun ls hl => ?_)
                                      refine lv_goto (tgt := 175) hx hb d_Model_mass_269 (by decide) ?_
                                      rw [hrec_175] at hR
                                      exact ih_175 x4_175 (x7_175 + 1) (by first | assumption | omega | exact hw_upb (by assumption) (by omega)) (by omega) H locs hP hD hS ls (lv_sub hl [4, 5, 6, 1, 7, 0] rfl) hR
                                    · replace hR := (if_pos c240).symm.trans hR
                                      refine lv_lload hx hb d_Model_mass_243 (lv_at hl 5 rfl) ?_
                                      refine lv_aload_n hx hb d_Model_mass_245 rfl (lv_at hl 2 rfl) ?_
                                      refine va_get (D := (dC, dI)) (ci := 5) (v := .ref (aM 18)) (C := R_Model) (T := T_Model) (N := 30) hx hb hG in_Model hown hK hP 0 rfl rfl 23 (by decide) (hG _ m_637) (fun _ h9 => h9) rfl d_Model_mass_246 ?_
                                      refine lv_bipush (v := nI 8) hx hb d_Model_mass_249 (by decide) ?_
                                      refine lv_iload hx hb d_Model_mass_251 (lv_at hl 6 rfl) ?_
                                      refine hw_imul hx hb d_Model_mass_253 ?_
                                      refine lv_iload hx hb d_Model_mass_254 (lv_at hl 7 rfl) ?_
                                      refine hw_iadd hx hb d_Model_mass_256 ?_
                                      refine hw_lald (f := LM12) hx hb hK hP 18 1 rfl rfl (by decide) (by omega) d_Model_mass_257 ?_
                                      refine lv_ladd hx hb d_Model_mass_258 ?_
                                      refine lv_goto (tgt := 264) hx hb d_Model_mass_259 (by decide) ?_
                                      refine lv_lstore (lv' := [(4, .long (x4_175 + (LM12 ((8 * x6_153) + x7_175)))), (9, .int (nI 1)), (8, .int (nI 1)), (0, .ref (aM 0)), (1, .long x1), (3, .int x3), (6, .int (nI x6_153)), (7, .int (nI x7_175))]) hx hb d_Model_mass_264 hl (by decide) rfl (fun ls hl => ?_)
                                      refine lv_iinc (v := nI (x7_175 + 1)) (lv' := [(7, .int (nI (x7_175 + 1))), (4, .long (x4_175 + (LM12 ((8 * x6_153) + x7_175)))), (9, .int (nI 1)), (8, .int (nI 1)), (0, .ref (aM 0)), (1, .long x1), (3, .int x3), (6, .int (nI x6_153))]) hx hb d_Model_mass_266 hl (k := 7) rfl (hw_inc _ 1) (by decide) rfl (fun ls hl => ?_)
                                      refine lv_goto (tgt := 175) hx hb d_Model_mass_269 (by decide) ?_
                                      rw [hrec_175] at hR
                                      exact ih_175 (x4_175 + (LM12 ((8 * x6_153) + x7_175))) (x7_175 + 1) (by first | assumption | omega | exact hw_upb (by assumption) (by omega)) (by omega) H locs hP hD hS ls (lv_sub hl [4, 5, 6, 1, 7, 0] rfl) hR
                      exact L_175 9 x4_153 0 (by first | assumption | omega | exact hw_upb (by assumption) (by omega)) (by omega) H locs hP hD hS ls (lv_sub hl [1, 2, 3, 4, 5, 0] rfl) hR
              exact L_153 13 x4_101 0 (by first | assumption | omega | exact hw_upb (by assumption) (by omega)) (by omega) H locs hP hD hS ls (lv_sub hl [1, 2, 3, 4, 0] rfl) hR
            have L_101 : ∀ (n : Nat) (x4_101 : Int64) (x6_101 : Nat) (hi : x6_101 ≤ VM2) (hfu : VM2 - x6_101 < n) (H : Heap) (locs : List Loc) (hP : va_P (dC, dI) vwCl (w_M cI cJ cZ aM 0 VM1 VM2 VM3 VM4 VM5 WM0 NM0 NM1 NM2 LM0 LM1 LM2 LM3 LM4 LM5 LM6 LM7 LM8 LM9 LM10 LM11 LM12 LM13 LM14 LM15 IM0 IM1 IM2 IM3) H) (hD : va_D A (w_M cI cJ cZ aM 0 VM1 VM2 VM3 VM4 VM5 WM0 NM0 NM1 NM2 LM0 LM1 LM2 LM3 LM4 LM5 LM6 LM7 LM8 LM9 LM10 LM11 LM12 LM13 LM14 LM15 IM0 IM1 IM2 IM3)) (hS : va_S A s.heap H locs) (ls : Array Slot) (hl : lv_has ls 10 [(0, .ref (aM 0)), (1, .long x1), (3, .int x3), (4, .long x4_101), (6, .int (nI x6_101))]) (hR : f_Model_mass_h101 VM2 x3 x1 LM3 LM2 k_101 n x4_101 x6_101 = r0), W p l e (headSpec u_Model_mass ({ frames := 1, cells := 0, slots := 0, locals := 25 })).room s m ([.ref (aM 0), .long x1, .int x3]).toArray below meth c H locs 0 0 (hh_Zl below (dC, dI) vwCl [(cI, .int), (cJ, .long), (cZ, .boolean)] A r0.1 (w_M cI cJ cZ aM r0.2 VM1 VM2 VM3 VM4 VM5 WM0 NM0 NM1 NM2 LM0 LM1 LM2 LM3 LM4 LM5 LM6 LM7 LM8 LM9 LM10 LM11 LM12 LM13 LM14 LM15 IM0 IM1 IM2 IM3) ([.ref (aM 0), .long x1, .int x3]).toArray s) (F0 m 101 ls []) := by
              intro n
              induction n with
              | zero =>
                intro x4_101 x6_101 hi hfu H locs hP hD hS ls hl hR
                exact absurd hfu (Nat.not_lt_zero _)
              | succ n ih_101 =>
                intro x4_101 x6_101 hi hfu H locs hP hD hS ls hl hR
                rw [f_Model_mass_h101] at hR
                obtain ⟨rec_101, hrec_101, hR⟩ : ∃ r, r = _ ∧ f_Model_mass_h101B VM2 x3 x1 LM3 LM2 k_101 r x4_101 x6_101 = r0 := ⟨_, rfl, hR⟩
                unfold f_Model_mass_h101B at hR
                refine lv_iload hx hb d_Model_mass_101 (lv_at hl 4 rfl) ?_
                refine lv_aload_n hx hb d_Model_mass_103 rfl (lv_at hl 0 rfl) ?_
                refine va_get (D := (dC, dI)) (ci := 5) (v := .int (nI VM2)) (C := R_Model) (T := T_Model) (N := 30) hx hb hG in_Model hown hK hP 0 rfl rfl 6 (by decide) (hG _ m_620) (fun _ h9 => h9) rfl d_Model_mass_104 ?_
                refine hw_icmp_ge (tgt := 150) hx hb d_Model_mass_107 (by decide) (by omega) (by omega) (fun c107 => ?_) (fun c107 => ?_)
                · replace hR := (if_pos c107).symm.trans hR
                  exact X_101 x4_101 x6_101 (by first | assumption | omega | exact hw_upb (by assumption) (by omega)) H locs hP hD hS ls (lv_sub hl [0, 1, 2, 3, 4] rfl) hR
                · replace hR := (if_neg c107).symm.trans hR
                  refine lv_iload_n hx hb d_Model_mass_110 rfl (lv_at hl 2 rfl) ?_
                  refine lv_iconst (v := nI 1) hx hb d_Model_mass_111 (by decide) ?_
                  refine lv_icmp_ne (tgt := 150) hx hb d_Model_mass_112 (by decide) (fun c112 => ?_) (fun c112 => ?_)
                  · replace hR := (if_neg c112).symm.trans hR
                    exact X_101 x4_101 x6_101 (by first | assumption | omega | exact hw_upb (by assumption) (by omega)) H locs hP hD hS ls (lv_sub hl [0, 1, 2, 3, 4] rfl) hR
                  · replace hR := (if_pos c112).symm.trans hR
                    refine lv_aload_n hx hb d_Model_mass_115 rfl (lv_at hl 0 rfl) ?_
                    refine va_get (D := (dC, dI)) (ci := 5) (v := .ref (aM 7)) (C := R_Model) (T := T_Model) (N := 30) hx hb hG in_Model hown hK hP 0 rfl rfl 9 (by decide) (hG _ m_623) (fun _ h9 => h9) rfl d_Model_mass_116 ?_
                    refine lv_iload hx hb d_Model_mass_119 (lv_at hl 4 rfl) ?_
                    refine hw_lald (f := LM3) hx hb hK hP 7 1 rfl rfl (by decide) (by omega) d_Model_mass_121 ?_
                    refine lv_lload_n hx hb d_Model_mass_122 rfl (lv_at hl 1 rfl) ?_
                    refine hw_lcmp_gt (tgt := 140) hx hb d_Model_mass_123 d_Model_mass_124 (by decide) (fun c123 => ?_) (fun c123 => ?_)
                    · replace hR := (if_pos c123).symm.trans hR
                      refine lv_lload hx hb d_Model_mass_140 (lv_at hl 3 rfl) ?_
                      refine lv_lstore (lv' := [(4, .long x4_101), (0, .ref (aM 0)), (1, .long x1), (3, .int x3), (6, .int (nI x6_101))]) hx hb d_Model_mass_142 hl (by decide) rfl (fun ls hl => ?_)
                      refine lv_iinc (v := nI (x6_101 + 1)) (lv' := [(6, .int (nI (x6_101 + 1))), (4, .long x4_101), (0, .ref (aM 0)), (1, .long x1), (3, .int x3)]) hx hb d_Model_mass_144 hl (k := 4) rfl (hw_inc _ 1) (by decide) rfl (fun ls hl => ?_)
                      refine lv_goto (tgt := 101) hx hb d_Model_mass_147 (by decide) ?_
                      rw [hrec_101] at hR
                      exact ih_101 x4_101 (x6_101 + 1) (by first | assumption | omega | exact hw_upb (by assumption) (by omega)) (by omega) H locs hP hD hS ls (lv_sub hl [2, 3, 4, 1, 0] rfl) hR
                    · replace hR := (if_neg c123).symm.trans hR
                      refine lv_lload hx hb d_Model_mass_127 (lv_at hl 3 rfl) ?_
                      refine lv_aload_n hx hb d_Model_mass_129 rfl (lv_at hl 0 rfl) ?_
                      refine va_get (D := (dC, dI)) (ci := 5) (v := .ref (aM 5)) (C := R_Model) (T := T_Model) (N := 30) hx hb hG in_Model hown hK hP 0 rfl rfl 7 (by decide) (hG _ m_621) (fun _ h9 => h9) rfl d_Model_mass_130 ?_
                      refine lv_iload hx hb d_Model_mass_133 (lv_at hl 4 rfl) ?_
                      refine hw_lald (f := LM2) hx hb hK hP 5 1 rfl rfl (by decide) (by omega) d_Model_mass_135 ?_
                      refine lv_ladd hx hb d_Model_mass_136 ?_
                      refine lv_goto (tgt := 142) hx hb d_Model_mass_137 (by decide) ?_
                      refine lv_lstore (lv' := [(4, .long (x4_101 + (LM2 x6_101))), (0, .ref (aM 0)), (1, .long x1), (3, .int x3), (6, .int (nI x6_101))]) hx hb d_Model_mass_142 hl (by decide) rfl (fun ls hl => ?_)
                      refine lv_iinc (v := nI (x6_101 + 1)) (lv' := [(6, .int (nI (x6_101 + 1))), (4, .long (x4_101 + (LM2 x6_101))), (0, .ref (aM 0)), (1, .long x1), (3, .int x3)]) hx hb d_Model_mass_144 hl (k := 4) rfl (hw_inc _ 1) (by decide) rfl (fun ls hl => ?_)
                      refine lv_goto (tgt := 101) hx hb d_Model_mass_147 (by decide) ?_
                      rw [hrec_101] at hR
                      exact ih_101 (x4_101 + (LM2 x6_101)) (x6_101 + 1) (by first | assumption | omega | exact hw_upb (by assumption) (by omega)) (by omega) H locs hP hD hS ls (lv_sub hl [2, 3, 4, 1, 0] rfl) hR
            exact L_101 9 x4_51 0 (by first | assumption | omega | exact hw_upb (by assumption) (by omega)) (by omega) H locs hP hD hS ls (lv_sub hl [1, 2, 3, 4, 0] rfl) hR
          have L_51 : ∀ (n : Nat) (x4_51 : Int64) (x6_51 : Nat) (hi : x6_51 ≤ VM1) (hfu : VM1 - x6_51 < n) (H : Heap) (locs : List Loc) (hP : va_P (dC, dI) vwCl (w_M cI cJ cZ aM 0 VM1 VM2 VM3 VM4 VM5 WM0 NM0 NM1 NM2 LM0 LM1 LM2 LM3 LM4 LM5 LM6 LM7 LM8 LM9 LM10 LM11 LM12 LM13 LM14 LM15 IM0 IM1 IM2 IM3) H) (hD : va_D A (w_M cI cJ cZ aM 0 VM1 VM2 VM3 VM4 VM5 WM0 NM0 NM1 NM2 LM0 LM1 LM2 LM3 LM4 LM5 LM6 LM7 LM8 LM9 LM10 LM11 LM12 LM13 LM14 LM15 IM0 IM1 IM2 IM3)) (hS : va_S A s.heap H locs) (ls : Array Slot) (hl : lv_has ls 10 [(0, .ref (aM 0)), (1, .long x1), (3, .int x3), (4, .long x4_51), (6, .int (nI x6_51))]) (hR : f_Model_mass_h51 VM1 x3 x1 LM1 NM0 LM0 LM4 LM5 k_51 n x4_51 x6_51 = r0), W p l e (headSpec u_Model_mass ({ frames := 1, cells := 0, slots := 0, locals := 25 })).room s m ([.ref (aM 0), .long x1, .int x3]).toArray below meth c H locs 0 0 (hh_Zl below (dC, dI) vwCl [(cI, .int), (cJ, .long), (cZ, .boolean)] A r0.1 (w_M cI cJ cZ aM r0.2 VM1 VM2 VM3 VM4 VM5 WM0 NM0 NM1 NM2 LM0 LM1 LM2 LM3 LM4 LM5 LM6 LM7 LM8 LM9 LM10 LM11 LM12 LM13 LM14 LM15 IM0 IM1 IM2 IM3) ([.ref (aM 0), .long x1, .int x3]).toArray s) (F0 m 51 ls []) := by
            intro n
            induction n with
            | zero =>
              intro x4_51 x6_51 hi hfu H locs hP hD hS ls hl hR
              exact absurd hfu (Nat.not_lt_zero _)
            | succ n ih_51 =>
              intro x4_51 x6_51 hi hfu H locs hP hD hS ls hl hR
              rw [f_Model_mass_h51] at hR
              obtain ⟨rec_51, hrec_51, hR⟩ : ∃ r, r = _ ∧ f_Model_mass_h51B VM1 x3 x1 LM1 NM0 LM0 LM4 LM5 k_51 r x4_51 x6_51 = r0 := ⟨_, rfl, hR⟩
              unfold f_Model_mass_h51B at hR
              refine lv_iload hx hb d_Model_mass_51 (lv_at hl 4 rfl) ?_
              refine lv_aload_n hx hb d_Model_mass_53 rfl (lv_at hl 0 rfl) ?_
              refine va_get (D := (dC, dI)) (ci := 5) (v := .int (nI VM1)) (C := R_Model) (T := T_Model) (N := 30) hx hb hG in_Model hown hK hP 0 rfl rfl 1 (by decide) (hG _ m_615) (fun _ h9 => h9) rfl d_Model_mass_54 ?_
              refine hw_icmp_ge (tgt := 98) hx hb d_Model_mass_57 (by decide) (by omega) (by omega) (fun c57 => ?_) (fun c57 => ?_)
              · replace hR := (if_pos c57).symm.trans hR
                exact X_51 x4_51 x6_51 (by first | assumption | omega | exact hw_upb (by assumption) (by omega)) H locs hP hD hS ls (lv_sub hl [0, 1, 2, 3, 4] rfl) hR
              · replace hR := (if_neg c57).symm.trans hR
                refine lv_iload_n hx hb d_Model_mass_60 rfl (lv_at hl 2 rfl) ?_
                refine lv_if_ne (tgt := 98) hx hb d_Model_mass_61 (by decide) (fun c61 => ?_) (fun c61 => ?_)
                · replace hR := (if_neg c61).symm.trans hR
                  exact X_51 x4_51 x6_51 (by first | assumption | omega | exact hw_upb (by assumption) (by omega)) H locs hP hD hS ls (lv_sub hl [0, 1, 2, 3, 4] rfl) hR
                · replace hR := (if_pos c61).symm.trans hR
                  refine lv_aload_n hx hb d_Model_mass_64 rfl (lv_at hl 0 rfl) ?_
                  refine va_get (D := (dC, dI)) (ci := 5) (v := .ref (aM 4)) (C := R_Model) (T := T_Model) (N := 30) hx hb hG in_Model hown hK hP 0 rfl rfl 5 (by decide) (hG _ m_619) (fun _ h9 => h9) rfl d_Model_mass_65 ?_
                  refine lv_iload hx hb d_Model_mass_68 (lv_at hl 4 rfl) ?_
                  refine hw_lald (f := LM1) hx hb hK hP 4 1 rfl rfl (by decide) (by omega) d_Model_mass_70 ?_
                  refine lv_lload_n hx hb d_Model_mass_71 rfl (lv_at hl 1 rfl) ?_
                  refine hw_lcmp_gt (tgt := 88) hx hb d_Model_mass_72 d_Model_mass_73 (by decide) (fun c72 => ?_) (fun c72 => ?_)
                  · replace hR := (if_pos c72).symm.trans hR
                    refine lv_lload hx hb d_Model_mass_88 (lv_at hl 3 rfl) ?_
                    refine lv_lstore (lv' := [(4, .long x4_51), (0, .ref (aM 0)), (1, .long x1), (3, .int x3), (6, .int (nI x6_51))]) hx hb d_Model_mass_90 hl (by decide) rfl (fun ls hl => ?_)
                    refine lv_iinc (v := nI (x6_51 + 1)) (lv' := [(6, .int (nI (x6_51 + 1))), (4, .long x4_51), (0, .ref (aM 0)), (1, .long x1), (3, .int x3)]) hx hb d_Model_mass_92 hl (k := 4) rfl (hw_inc _ 1) (by decide) rfl (fun ls hl => ?_)
                    refine lv_goto (tgt := 51) hx hb d_Model_mass_95 (by decide) ?_
                    rw [hrec_51] at hR
                    exact ih_51 x4_51 (x6_51 + 1) (by first | assumption | omega | exact hw_upb (by assumption) (by omega)) (by omega) H locs hP hD hS ls (lv_sub hl [2, 3, 4, 1, 0] rfl) hR
                  · replace hR := (if_neg c72).symm.trans hR
                    refine lv_lload hx hb d_Model_mass_76 (lv_at hl 3 rfl) ?_
                    refine lv_aload_n hx hb d_Model_mass_78 rfl (lv_at hl 0 rfl) ?_
                    refine lv_iload hx hb d_Model_mass_79 (lv_at hl 4 rfl) ?_
                    obtain ⟨y81, hy81, hR⟩ := hw_bind hR
                    have hM := c_Model_gives l dC dI cI cJ cZ H.size aM 0 VM1 VM2 VM3 VM4 VM5 WM0 NM0 NM1 NM2 LM0 LM1 LM2 LM3 LM4 LM5 LM6 LM7 LM8 LM9 LM10 LM11 LM12 LM13 LM14 LM15 IM0 IM1 IM2 IM3 x6_51 (by first | assumption | omega) (by first | assumption | omega) (by first | assumption | omega)
                    rw [hy81] at hM
                    refine hw_callVl (As := [.int (nI x6_51)]) (rest := [.long x4_51]) (wr := ([] : va_W)) ⟨hx, hb, hml, hown, hG⟩ hM (hw_cwV 1 hG m_758 m_760 mp_22 m_7 m_761 rfl rfl (by decide +kernel) ⟨Nat.le_of_ble_eq_true rfl, Nat.le_of_ble_eq_true rfl⟩) hK hP hD hS hA [0, 1, 2, 3, 4, 5, 6, 7, 8, 9, 10, 11, 12, 13, 14, 15, 16, 17, 18, 19, 20, 21, 22, 23] [] rfl rfl (by decide) (by decide) (by decide) (hw_recv hK hP 0 rfl rfl) rfl hl.1 rfl (Nat.le_of_ble_eq_true rfl) d_Model_mass_81 ⟨Nat.le_of_ble_eq_true rfl, Nat.le_of_ble_eq_true rfl⟩ (fun H locs hP hD hS => ?_)
                    have hP : va_P (dC, dI) vwCl (w_M cI cJ cZ aM 0 VM1 VM2 VM3 VM4 VM5 WM0 NM0 NM1 NM2 LM0 LM1 LM2 LM3 LM4 LM5 LM6 LM7 LM8 LM9 LM10 LM11 LM12 LM13 LM14 LM15 IM0 IM1 IM2 IM3) H := hP
                    have hD : va_D A (w_M cI cJ cZ aM 0 VM1 VM2 VM3 VM4 VM5 WM0 NM0 NM1 NM2 LM0 LM1 LM2 LM3 LM4 LM5 LM6 LM7 LM8 LM9 LM10 LM11 LM12 LM13 LM14 LM15 IM0 IM1 IM2 IM3) := hD
                    refine lv_ladd hx hb d_Model_mass_84 ?_
                    refine lv_goto (tgt := 90) hx hb d_Model_mass_85 (by decide) ?_
                    refine lv_lstore (lv' := [(4, .long (x4_51 + y81)), (0, .ref (aM 0)), (1, .long x1), (3, .int x3), (6, .int (nI x6_51))]) hx hb d_Model_mass_90 hl (by decide) rfl (fun ls hl => ?_)
                    refine lv_iinc (v := nI (x6_51 + 1)) (lv' := [(6, .int (nI (x6_51 + 1))), (4, .long (x4_51 + y81)), (0, .ref (aM 0)), (1, .long x1), (3, .int x3)]) hx hb d_Model_mass_92 hl (k := 4) rfl (hw_inc _ 1) (by decide) rfl (fun ls hl => ?_)
                    refine lv_goto (tgt := 51) hx hb d_Model_mass_95 (by decide) ?_
                    rw [hrec_51] at hR
                    exact ih_51 (x4_51 + y81) (x6_51 + 1) (by first | assumption | omega | exact hw_upb (by assumption) (by omega)) (by omega) H locs hP hD hS ls (lv_sub hl [2, 3, 4, 1, 0] rfl) hR
          exact L_51 9 0 0 (by first | assumption | omega | exact hw_upb (by assumption) (by omega)) (by omega) H locs hP hD hS ls (lv_sub hl [2, 3, 4, 1, 0] rfl) hR
        · replace hR := (if_neg c38).symm.trans hR
          refine lv_ldc2 (v := (-1)) hx hb hown (hG _ m_806) d_Model_mass_41 ?_
          subst hR
          exact W.lret (v := (-1)) hx hb hr (fun t ht hW => ⟨⟨_, (), rfl, rfl, by rw [ht]; exact hP, va_K.moved hW.alike hK, hD⟩, hS.F ht⟩) hS.2.2 d_Model_mass_44
def f_Model_check (VM5 : Nat) : Int32 × (Nat) :=
  if VM5 = 1 then (nI 0, 0) else ((-1), 0)
set_option maxHeartbeats 4000000 in
set_option maxRecDepth 100000 in
theorem c_Model_check (l : Launch) (dC : Nat → ClassId) (dI : Nat → Nat → Nat) (cI cJ cZ : ClassId) (sz : Nat) (aM : Nat → Nat) (VM0 : Nat) (VM1 : Nat) (VM2 : Nat) (VM3 : Nat) (VM4 : Nat) (VM5 : Nat) (WM0 : Int64) (NM0 : Nat → Nat) (NM1 : Nat → Nat) (NM2 : Nat → Nat) (LM0 : Nat → Int64) (LM1 : Nat → Int64) (LM2 : Nat → Int64) (LM3 : Nat → Int64) (LM4 : Nat → Int64) (LM5 : Nat → Int64) (LM6 : Nat → Int64) (LM7 : Nat → Int64) (LM8 : Nat → Int64) (LM9 : Nat → Int64) (LM10 : Nat → Int64) (LM11 : Nat → Int64) (LM12 : Nat → Int64) (LM13 : Nat → Int64) (LM14 : Nat → Int64) (LM15 : Nat → Int64) (IM0 : Nat → Int32) (IM1 : Nat → Int32) (IM2 : Nat → Int32) (IM3 : Nat → Int32) (m1 : VM1 ≤ 8) (m2 : VM2 ≤ 8) (m3 : VM3 ≤ 6) (m4 : VM4 ≤ 4) (mk4 : ∀ i, NM0 i < 4) (mcw : ∀ i, NM1 i < 12) (mfw : ∀ i, NM2 i < 12) (msb : ∀ i, i < 4 → ¬ LM5 i = 0) (m5 : VM5 ≤ 2) : hh_Ci l y_Model_check u_Model_check ({ frames := 0, cells := 0, slots := 0, locals := 0 }) (dC, dI) vwCl [(cI, .int), (cJ, .long), (cZ, .boolean)] (w_M cI cJ cZ aM VM0 VM1 VM2 VM3 VM4 VM5 WM0 NM0 NM1 NM2 LM0 LM1 LM2 LM3 LM4 LM5 LM6 LM7 LM8 LM9 LM10 LM11 LM12 LM13 LM14 LM15 IM0 IM1 IM2 IM3) sz [.ref (aM 0)] ((f_Model_check VM5).1) (w_M cI cJ cZ aM ((f_Model_check VM5).2) VM1 VM2 VM3 VM4 VM5 WM0 NM0 NM1 NM2 LM0 LM1 LM2 LM3 LM4 LM5 LM6 LM7 LM8 LM9 LM10 LM11 LM12 LM13 LM14 LM15 IM0 IM1 IM2 IM3) 0 0 := by
  unfold hh_Ci
  refine Met.ofW (cc := b_Model_check) (maxL := 1) (ret := (some .int)) (by decide) rfl ?_
  intro p e s m args below meth c s₁ B hml hv
  obtain ⟨rfl, hsz, hP, hK, hD0⟩ := hv
  have hx := B.exec
  have hb := B.bytes
  have hr := B.returns
  have hts := atoms_spec (ws := u_Model_check) B.pre
  have hG : ∀ w ∈ wG, w.before ([.ref (aM 0)]).toArray s = true := fun w h => hts w (List.mem_cons_of_mem _ h)
  have hown : s.vm.findClass R_Model = some m.cls := findClass_of_methodNamed B.named
  have hlocks := B.notSynchronized
  subst hsz
  have hD := hD0.self (sz := s.heap.size)
  generalize hAe : va_A (w_M cI cJ cZ aM VM0 VM1 VM2 VM3 VM4 VM5 WM0 NM0 NM1 NM2 LM0 LM1 LM2 LM3 LM4 LM5 LM6 LM7 LM8 LM9 LM10 LM11 LM12 LM13 LM14 LM15 IM0 IM1 IM2 IM3) s.heap.size = A at hD ⊢
  have hA : ∀ q : Nat, s.heap.size ≤ q → A q := fun q h => by rw [← hAe]; exact Or.inr h
  have hS : va_S A s.heap s.heap [] := va_S.rf
  have hl := lv_entry ([.ref (aM 0)]) (n := 1) (Nat.le_of_ble_eq_true rfl)
  rw [lg_entry_eq]
  generalize (lg_sl ([.ref (aM 0)]) ++ List.replicate (1 - (lg_sl ([.ref (aM 0)])).length) Slot.unset).toArray = ls at hl ⊢
  have hl : lv_has ls 1 [(0, .ref (aM 0))] := hl
  generalize hR : f_Model_check VM5 = r0
  obtain ⟨H, locs, hHe, hle⟩ : ∃ (H : Heap) (locs : List Loc), s.heap = H ∧ [] = locs := ⟨_, _, rfl, rfl⟩
  have hP : va_P (dC, dI) vwCl (w_M cI cJ cZ aM VM0 VM1 VM2 VM3 VM4 VM5 WM0 NM0 NM1 NM2 LM0 LM1 LM2 LM3 LM4 LM5 LM6 LM7 LM8 LM9 LM10 LM11 LM12 LM13 LM14 LM15 IM0 IM1 IM2 IM3) H := by rw [← hHe]; exact hP
  have hS : va_S A s.heap H locs := by rw [← hHe, ← hle]; exact hS
  refine hw_start hHe hle ?_
  unfold f_Model_check at hR
  refine lv_aload_n hx hb d_Model_check_0 rfl (lv_at hl 0 rfl) ?_
  refine lv_iconst (v := nI 0) hx hb d_Model_check_1 (by decide) ?_
  refine va_put (D := (dC, dI)) (ci := 5) (v := .int (nI 0)) (ty := .int) (C := R_Model) (T := T_Model) (N := 30) hx hb hG in_Model ty_Model tok_Model nok_Model hown hK hP hD hS 0 rfl rfl 0 (by decide) (hG _ m_614) (fun _ h9 => h9) rfl (by decide +kernel) rfl rfl (Nat.le_of_ble_eq_true rfl) d_Model_check_2 (fun H locs hP hD hS => ?_)
  have hP : va_P (dC, dI) vwCl (w_M cI cJ cZ aM 0 VM1 VM2 VM3 VM4 VM5 WM0 NM0 NM1 NM2 LM0 LM1 LM2 LM3 LM4 LM5 LM6 LM7 LM8 LM9 LM10 LM11 LM12 LM13 LM14 LM15 IM0 IM1 IM2 IM3) H := hP
  have hD : va_D A (w_M cI cJ cZ aM 0 VM1 VM2 VM3 VM4 VM5 WM0 NM0 NM1 NM2 LM0 LM1 LM2 LM3 LM4 LM5 LM6 LM7 LM8 LM9 LM10 LM11 LM12 LM13 LM14 LM15 IM0 IM1 IM2 IM3) := hD
  refine lv_aload_n hx hb d_Model_check_5 rfl (lv_at hl 0 rfl) ?_
  refine va_get (D := (dC, dI)) (ci := 5) (v := .int (nI VM5)) (C := R_Model) (T := T_Model) (N := 30) hx hb hG in_Model hown hK hP 0 rfl rfl 22 (by decide) (hG _ m_636) (fun _ h9 => h9) rfl d_Model_check_6 ?_
  refine lv_iconst (v := nI 1) hx hb d_Model_check_9 (by decide) ?_
  refine hw_icmp_ne (tgt := 17) hx hb d_Model_check_10 (by decide) (by omega) (by omega) (fun c10 => ?_) (fun c10 => ?_)
  · replace hR := (if_neg c10).symm.trans hR
    refine lv_iconst (v := (-1)) hx hb d_Model_check_17 (by decide) ?_
    subst hR
    exact W.iret (v := (-1)) hx hb hr (fun t ht hW => ⟨⟨_, (), rfl, rfl, by rw [ht]; exact hP, va_K.moved hW.alike hK, hD⟩, hS.F ht⟩) hS.2.2 d_Model_check_18
  · replace hR := (if_pos c10).symm.trans hR
    refine lv_iconst (v := nI 0) hx hb d_Model_check_13 (by decide) ?_
    refine lv_goto (tgt := 18) hx hb d_Model_check_14 (by decide) ?_
    subst hR
    exact W.iret (v := nI 0) hx hb hr (fun t ht hW => ⟨⟨_, (), rfl, rfl, by rw [ht]; exact hP, va_K.moved hW.alike hK, hD⟩, hS.F ht⟩) hS.2.2 d_Model_check_18
def f_Model_level_h52B (VM2 : Nat) (x2 : Int32) (LM12 : Nat → Int64) (x1 : Int32) (k_52 : (Int64) → (Nat) → Int64 × (Nat)) (rec_52 : (Int64) → (Nat) → Int64 × (Nat)) (x3_52 : Int64) (x5_52 : Nat) : Int64 × (Nat) :=
  if VM2 ≤ x5_52 then (k_52 x3_52 x5_52) else (if x2 = 0 then (rec_52 (x3_52 - (LM12 ((8 * x1.toNatClampNeg) + x5_52))) (x5_52 + 1)) else (k_52 x3_52 x5_52))
def f_Model_level_h52 (VM2 : Nat) (x2 : Int32) (LM12 : Nat → Int64) (x1 : Int32) (k_52 : (Int64) → (Nat) → Int64 × (Nat)) : Nat → (Int64) → (Nat) → Int64 × (Nat)
  | 0, x3_52, x5_52 => k_52 x3_52 x5_52
  | n + 1, x3_52, x5_52 => f_Model_level_h52B VM2 x2 LM12 x1 k_52 (fun x3_52 x5_52 => f_Model_level_h52 VM2 x2 LM12 x1 k_52 n x3_52 x5_52) x3_52 x5_52
def f_Model_level_x52  (x3_52 : Int64) (x5_52 : Nat) : Int64 × (Nat) :=
  (x3_52, 0)
def f_Model_level (VM1 : Nat) (VM2 : Nat) (VM5 : Nat) (NM0 : Nat → Nat) (LM0 : Nat → Int64) (LM4 : Nat → Int64) (LM5 : Nat → Int64) (LM12 : Nat → Int64) (x1 : Int32) (x2 : Int32) : Int64 × (Nat) :=
  if VM5 = 1 then (hh_bind (f_Model_isIn x1.toInt64 0 (((nI VM1).toInt64) - 1)) (fun y23 => if y23 = 0 then ((-1), 0) else (hh_bind (f_Model_isIn x2.toInt64 0 1) (fun y33 => if y33 = 0 then ((-1), 0) else (hh_bind (f_Model_gives NM0 LM0 LM4 LM5 x1.toNatClampNeg) (fun y45 => f_Model_level_h52 VM2 x2 LM12 x1 f_Model_level_x52 9 y45 0)))))) else ((-1), 0)
set_option maxHeartbeats 4000000 in
set_option maxRecDepth 100000 in
theorem c_Model_level (l : Launch) (dC : Nat → ClassId) (dI : Nat → Nat → Nat) (cI cJ cZ : ClassId) (sz : Nat) (aM : Nat → Nat) (VM0 : Nat) (VM1 : Nat) (VM2 : Nat) (VM3 : Nat) (VM4 : Nat) (VM5 : Nat) (WM0 : Int64) (NM0 : Nat → Nat) (NM1 : Nat → Nat) (NM2 : Nat → Nat) (LM0 : Nat → Int64) (LM1 : Nat → Int64) (LM2 : Nat → Int64) (LM3 : Nat → Int64) (LM4 : Nat → Int64) (LM5 : Nat → Int64) (LM6 : Nat → Int64) (LM7 : Nat → Int64) (LM8 : Nat → Int64) (LM9 : Nat → Int64) (LM10 : Nat → Int64) (LM11 : Nat → Int64) (LM12 : Nat → Int64) (LM13 : Nat → Int64) (LM14 : Nat → Int64) (LM15 : Nat → Int64) (IM0 : Nat → Int32) (IM1 : Nat → Int32) (IM2 : Nat → Int32) (IM3 : Nat → Int32) (x1 : Int32) (x2 : Int32) (m1 : VM1 ≤ 8) (m2 : VM2 ≤ 8) (m3 : VM3 ≤ 6) (m4 : VM4 ≤ 4) (mk4 : ∀ i, NM0 i < 4) (mcw : ∀ i, NM1 i < 12) (mfw : ∀ i, NM2 i < 12) (msb : ∀ i, i < 4 → ¬ LM5 i = 0) (m5 : VM5 ≤ 2) : hh_Cl l y_Model_level u_Model_level ({ frames := 1, cells := 0, slots := 0, locals := 25 }) (dC, dI) vwCl [(cI, .int), (cJ, .long), (cZ, .boolean)] (w_M cI cJ cZ aM VM0 VM1 VM2 VM3 VM4 VM5 WM0 NM0 NM1 NM2 LM0 LM1 LM2 LM3 LM4 LM5 LM6 LM7 LM8 LM9 LM10 LM11 LM12 LM13 LM14 LM15 IM0 IM1 IM2 IM3) sz [.ref (aM 0), .int x1, .int x2] ((f_Model_level VM1 VM2 VM5 NM0 LM0 LM4 LM5 LM12 x1 x2).1) (w_M cI cJ cZ aM ((f_Model_level VM1 VM2 VM5 NM0 LM0 LM4 LM5 LM12 x1 x2).2) VM1 VM2 VM3 VM4 VM5 WM0 NM0 NM1 NM2 LM0 LM1 LM2 LM3 LM4 LM5 LM6 LM7 LM8 LM9 LM10 LM11 LM12 LM13 LM14 LM15 IM0 IM1 IM2 IM3) 0 0 := by
  unfold hh_Cl
  refine Met.ofW (cc := b_Model_level) (maxL := 6) (ret := (some .long)) (by decide) rfl ?_
  intro p e s m args below meth c s₁ B hml hv
  obtain ⟨rfl, hsz, hP, hK, hD0⟩ := hv
  have hx := B.exec
  have hb := B.bytes
  have hr := B.returns
  have hts := atoms_spec (ws := u_Model_level) B.pre
  have hG : ∀ w ∈ wG, w.before ([.ref (aM 0), .int x1, .int x2]).toArray s = true := fun w h => hts w (List.mem_cons_of_mem _ h)
  have hown : s.vm.findClass R_Model = some m.cls := findClass_of_methodNamed B.named
  have hlocks := B.notSynchronized
  subst hsz
  have hD := hD0.self (sz := s.heap.size)
  generalize hAe : va_A (w_M cI cJ cZ aM VM0 VM1 VM2 VM3 VM4 VM5 WM0 NM0 NM1 NM2 LM0 LM1 LM2 LM3 LM4 LM5 LM6 LM7 LM8 LM9 LM10 LM11 LM12 LM13 LM14 LM15 IM0 IM1 IM2 IM3) s.heap.size = A at hD ⊢
  have hA : ∀ q : Nat, s.heap.size ≤ q → A q := fun q h => by rw [← hAe]; exact Or.inr h
  have hS : va_S A s.heap s.heap [] := va_S.rf
  have hl := lv_entry ([.ref (aM 0), .int x1, .int x2]) (n := 6) (Nat.le_of_ble_eq_true rfl)
  rw [lg_entry_eq]
  generalize (lg_sl ([.ref (aM 0), .int x1, .int x2]) ++ List.replicate (6 - (lg_sl ([.ref (aM 0), .int x1, .int x2])).length) Slot.unset).toArray = ls at hl ⊢
  have hl : lv_has ls 6 [(0, .ref (aM 0)), (1, .int x1), (2, .int x2)] := hl
  generalize hR : f_Model_level VM1 VM2 VM5 NM0 LM0 LM4 LM5 LM12 x1 x2 = r0
  obtain ⟨H, locs, hHe, hle⟩ : ∃ (H : Heap) (locs : List Loc), s.heap = H ∧ [] = locs := ⟨_, _, rfl, rfl⟩
  have hP : va_P (dC, dI) vwCl (w_M cI cJ cZ aM VM0 VM1 VM2 VM3 VM4 VM5 WM0 NM0 NM1 NM2 LM0 LM1 LM2 LM3 LM4 LM5 LM6 LM7 LM8 LM9 LM10 LM11 LM12 LM13 LM14 LM15 IM0 IM1 IM2 IM3) H := by rw [← hHe]; exact hP
  have hS : va_S A s.heap H locs := by rw [← hHe, ← hle]; exact hS
  refine hw_start hHe hle ?_
  unfold f_Model_level at hR
  refine lv_aload_n hx hb d_Model_level_0 rfl (lv_at hl 0 rfl) ?_
  refine lv_iconst (v := nI 0) hx hb d_Model_level_1 (by decide) ?_
  refine va_put (D := (dC, dI)) (ci := 5) (v := .int (nI 0)) (ty := .int) (C := R_Model) (T := T_Model) (N := 30) hx hb hG in_Model ty_Model tok_Model nok_Model hown hK hP hD hS 0 rfl rfl 0 (by decide) (hG _ m_614) (fun _ h9 => h9) rfl (by decide +kernel) rfl rfl (Nat.le_of_ble_eq_true rfl) d_Model_level_2 (fun H locs hP hD hS => ?_)
  have hP : va_P (dC, dI) vwCl (w_M cI cJ cZ aM 0 VM1 VM2 VM3 VM4 VM5 WM0 NM0 NM1 NM2 LM0 LM1 LM2 LM3 LM4 LM5 LM6 LM7 LM8 LM9 LM10 LM11 LM12 LM13 LM14 LM15 IM0 IM1 IM2 IM3) H := hP
  have hD : va_D A (w_M cI cJ cZ aM 0 VM1 VM2 VM3 VM4 VM5 WM0 NM0 NM1 NM2 LM0 LM1 LM2 LM3 LM4 LM5 LM6 LM7 LM8 LM9 LM10 LM11 LM12 LM13 LM14 LM15 IM0 IM1 IM2 IM3) := hD
  refine lv_aload_n hx hb d_Model_level_5 rfl (lv_at hl 0 rfl) ?_
  refine va_get (D := (dC, dI)) (ci := 5) (v := .int (nI VM5)) (C := R_Model) (T := T_Model) (N := 30) hx hb hG in_Model hown hK hP 0 rfl rfl 22 (by decide) (hG _ m_636) (fun _ h9 => h9) rfl d_Model_level_6 ?_
  refine lv_iconst (v := nI 1) hx hb d_Model_level_9 (by decide) ?_
  refine hw_icmp_ne (tgt := 39) hx hb d_Model_level_10 (by decide) (by omega) (by omega) (fun c10 => ?_) (fun c10 => ?_)
  · replace hR := (if_neg c10).symm.trans hR
    refine lv_ldc2 (v := (-1)) hx hb hown (hG _ m_806) d_Model_level_39 ?_
    subst hR
    exact W.lret (v := (-1)) hx hb hr (fun t ht hW => ⟨⟨_, (), rfl, rfl, by rw [ht]; exact hP, va_K.moved hW.alike hK, hD⟩, hS.F ht⟩) hS.2.2 d_Model_level_42
  · replace hR := (if_pos c10).symm.trans hR
    refine lv_iload_n hx hb d_Model_level_13 rfl (lv_at hl 1 rfl) ?_
    refine lv_i2l (v := x1.toInt64) hx hb d_Model_level_14 rfl ?_
    refine lv_lconst (v := 0) hx hb d_Model_level_15 (by decide) ?_
    refine lv_aload_n hx hb d_Model_level_16 rfl (lv_at hl 0 rfl) ?_
    refine va_get (D := (dC, dI)) (ci := 5) (v := .int (nI VM1)) (C := R_Model) (T := T_Model) (N := 30) hx hb hG in_Model hown hK hP 0 rfl rfl 1 (by decide) (hG _ m_615) (fun _ h9 => h9) rfl d_Model_level_17 ?_
    refine lv_i2l (v := (nI VM1).toInt64) hx hb d_Model_level_20 rfl ?_
    refine lv_lconst (v := 1) hx hb d_Model_level_21 (by decide) ?_
    refine lv_lsub hx hb d_Model_level_22 ?_
    obtain ⟨y23, hy23, hR⟩ := hw_bind hR
    have hM := c_Model_isIn l dC dI cI cJ cZ H.size x1.toInt64 0 (((nI VM1).toInt64) - 1)
    rw [hy23] at hM
    refine hw_callSi (As := [.long x1.toInt64, .long 0, .long (((nI VM1).toInt64) - 1)]) (rest := []) (wr := w_M cI cJ cZ aM 0 VM1 VM2 VM3 VM4 VM5 WM0 NM0 NM1 NM2 LM0 LM1 LM2 LM3 LM4 LM5 LM6 LM7 LM8 LM9 LM10 LM11 LM12 LM13 LM14 LM15 IM0 IM1 IM2 IM3) ⟨hx, hb, hml, hown, hG⟩ hM (hw_cwS 3 hG m_714 m_715 m_7 m_716 rfl rfl (by decide +kernel) ⟨Nat.le_of_ble_eq_true rfl, Nat.le_of_ble_eq_true rfl⟩) hK hP hD hS hA [] [0, 1, 2, 3, 4, 5, 6, 7, 8, 9, 10, 11, 12, 13, 14, 15, 16, 17, 18, 19, 20, 21, 22, 23] rfl rfl (by decide) (by decide) (by decide) rfl hl.1 rfl (Nat.le_of_ble_eq_true rfl) d_Model_level_23 ⟨Nat.le_of_ble_eq_true rfl, Nat.le_of_ble_eq_true rfl⟩ (fun H locs hP hD hS => ?_)
    have hP : va_P (dC, dI) vwCl (w_M cI cJ cZ aM 0 VM1 VM2 VM3 VM4 VM5 WM0 NM0 NM1 NM2 LM0 LM1 LM2 LM3 LM4 LM5 LM6 LM7 LM8 LM9 LM10 LM11 LM12 LM13 LM14 LM15 IM0 IM1 IM2 IM3) H := hP
    have hD : va_D A (w_M cI cJ cZ aM 0 VM1 VM2 VM3 VM4 VM5 WM0 NM0 NM1 NM2 LM0 LM1 LM2 LM3 LM4 LM5 LM6 LM7 LM8 LM9 LM10 LM11 LM12 LM13 LM14 LM15 IM0 IM1 IM2 IM3) := hD
    have hbl23 := hm_in (x := x1) (n := VM1) (hi := ((nI VM1).toInt64) - 1) (hm_fm (by omega))
    rw [hy23] at hbl23
    refine lv_if_eq (tgt := 39) hx hb d_Model_level_26 (by decide) (fun c26 => ?_) (fun c26 => ?_)
    · replace hR := (if_pos c26).symm.trans hR
      refine lv_ldc2 (v := (-1)) hx hb hown (hG _ m_806) d_Model_level_39 ?_
      subst hR
      exact W.lret (v := (-1)) hx hb hr (fun t ht hW => ⟨⟨_, (), rfl, rfl, by rw [ht]; exact hP, va_K.moved hW.alike hK, hD⟩, hS.F ht⟩) hS.2.2 d_Model_level_42
    · replace hR := (if_neg c26).symm.trans hR
      refine lv_iload_n hx hb d_Model_level_29 rfl (lv_at hl 2 rfl) ?_
      refine lv_i2l (v := x2.toInt64) hx hb d_Model_level_30 rfl ?_
      refine lv_lconst (v := 0) hx hb d_Model_level_31 (by decide) ?_
      refine lv_lconst (v := 1) hx hb d_Model_level_32 (by decide) ?_
      obtain ⟨y33, hy33, hR⟩ := hw_bind hR
      have hM := c_Model_isIn l dC dI cI cJ cZ H.size x2.toInt64 0 1
      rw [hy33] at hM
      refine hw_callSi (As := [.long x2.toInt64, .long 0, .long 1]) (rest := []) (wr := w_M cI cJ cZ aM 0 VM1 VM2 VM3 VM4 VM5 WM0 NM0 NM1 NM2 LM0 LM1 LM2 LM3 LM4 LM5 LM6 LM7 LM8 LM9 LM10 LM11 LM12 LM13 LM14 LM15 IM0 IM1 IM2 IM3) ⟨hx, hb, hml, hown, hG⟩ hM (hw_cwS 3 hG m_714 m_715 m_7 m_716 rfl rfl (by decide +kernel) ⟨Nat.le_of_ble_eq_true rfl, Nat.le_of_ble_eq_true rfl⟩) hK hP hD hS hA [] [0, 1, 2, 3, 4, 5, 6, 7, 8, 9, 10, 11, 12, 13, 14, 15, 16, 17, 18, 19, 20, 21, 22, 23] rfl rfl (by decide) (by decide) (by decide) rfl hl.1 rfl (Nat.le_of_ble_eq_true rfl) d_Model_level_33 ⟨Nat.le_of_ble_eq_true rfl, Nat.le_of_ble_eq_true rfl⟩ (fun H locs hP hD hS => ?_)
      have hP : va_P (dC, dI) vwCl (w_M cI cJ cZ aM 0 VM1 VM2 VM3 VM4 VM5 WM0 NM0 NM1 NM2 LM0 LM1 LM2 LM3 LM4 LM5 LM6 LM7 LM8 LM9 LM10 LM11 LM12 LM13 LM14 LM15 IM0 IM1 IM2 IM3) H := hP
      have hD : va_D A (w_M cI cJ cZ aM 0 VM1 VM2 VM3 VM4 VM5 WM0 NM0 NM1 NM2 LM0 LM1 LM2 LM3 LM4 LM5 LM6 LM7 LM8 LM9 LM10 LM11 LM12 LM13 LM14 LM15 IM0 IM1 IM2 IM3) := hD
      have hbl33 := hm_in (x := x2) (n := 2) (hi := 1) (by decide)
      rw [hy33] at hbl33
      refine lv_if_ne (tgt := 43) hx hb d_Model_level_36 (by decide) (fun c36 => ?_) (fun c36 => ?_)
      · replace hR := (if_neg c36).symm.trans hR
        obtain ⟨hna1, hnb1⟩ := hbl23 c26
        have en43_1 : nI (x1.toNatClampNeg) = x1 := hw_nat hna1
        have hl : lv_has ls 6 [(0, .ref (aM 0)), (1, .int (nI x1.toNatClampNeg)), (2, .int x2)] := by rw [en43_1]; exact hl
        refine lv_aload_n hx hb d_Model_level_43 rfl (lv_at hl 0 rfl) ?_
        refine lv_iload_n hx hb d_Model_level_44 rfl (lv_at hl 1 rfl) ?_
        obtain ⟨y45, hy45, hR⟩ := hw_bind hR
        have hM := c_Model_gives l dC dI cI cJ cZ H.size aM 0 VM1 VM2 VM3 VM4 VM5 WM0 NM0 NM1 NM2 LM0 LM1 LM2 LM3 LM4 LM5 LM6 LM7 LM8 LM9 LM10 LM11 LM12 LM13 LM14 LM15 IM0 IM1 IM2 IM3 x1.toNatClampNeg (by first | assumption | omega) (by first | assumption | omega) (by first | assumption | omega)
        rw [hy45] at hM
        refine hw_callVl (As := [.int (nI x1.toNatClampNeg)]) (rest := []) (wr := ([] : va_W)) ⟨hx, hb, hml, hown, hG⟩ hM (hw_cwV 1 hG m_758 m_760 mp_22 m_7 m_761 rfl rfl (by decide +kernel) ⟨Nat.le_of_ble_eq_true rfl, Nat.le_of_ble_eq_true rfl⟩) hK hP hD hS hA [0, 1, 2, 3, 4, 5, 6, 7, 8, 9, 10, 11, 12, 13, 14, 15, 16, 17, 18, 19, 20, 21, 22, 23] [] rfl rfl (by decide) (by decide) (by decide) (hw_recv hK hP 0 rfl rfl) rfl hl.1 rfl (Nat.le_of_ble_eq_true rfl) d_Model_level_45 ⟨Nat.le_of_ble_eq_true rfl, Nat.le_of_ble_eq_true rfl⟩ (fun H locs hP hD hS => ?_)
        have hP : va_P (dC, dI) vwCl (w_M cI cJ cZ aM 0 VM1 VM2 VM3 VM4 VM5 WM0 NM0 NM1 NM2 LM0 LM1 LM2 LM3 LM4 LM5 LM6 LM7 LM8 LM9 LM10 LM11 LM12 LM13 LM14 LM15 IM0 IM1 IM2 IM3) H := hP
        have hD : va_D A (w_M cI cJ cZ aM 0 VM1 VM2 VM3 VM4 VM5 WM0 NM0 NM1 NM2 LM0 LM1 LM2 LM3 LM4 LM5 LM6 LM7 LM8 LM9 LM10 LM11 LM12 LM13 LM14 LM15 IM0 IM1 IM2 IM3) := hD
        refine lv_lstore_n (lv' := [(3, .long y45), (0, .ref (aM 0)), (1, .int (nI x1.toNatClampNeg)), (2, .int x2)]) hx hb d_Model_level_48 rfl hl (by decide) rfl (fun ls hl => ?_)
        refine lv_iconst (v := nI 0) hx hb d_Model_level_49 (by decide) ?_
        refine lv_istore (lv' := [(5, .int (nI 0)), (3, .long y45), (0, .ref (aM 0)), (1, .int (nI x1.toNatClampNeg)), (2, .int x2)]) hx hb d_Model_level_50 hl (by decide) rfl (fun ls hl => ?_)
        obtain ⟨k_52, hk_52, hR⟩ : ∃ k, f_Model_level_x52 = k ∧ f_Model_level_h52 VM2 x2 LM12 x1 k 9 y45 0 = r0 := ⟨_, rfl, hR⟩
        have X_52 : ∀ (x3_52 : Int64) (x5_52 : Nat) (hi : x5_52 ≤ VM2) (H : Heap) (locs : List Loc) (hP : va_P (dC, dI) vwCl (w_M cI cJ cZ aM 0 VM1 VM2 VM3 VM4 VM5 WM0 NM0 NM1 NM2 LM0 LM1 LM2 LM3 LM4 LM5 LM6 LM7 LM8 LM9 LM10 LM11 LM12 LM13 LM14 LM15 IM0 IM1 IM2 IM3) H) (hD : va_D A (w_M cI cJ cZ aM 0 VM1 VM2 VM3 VM4 VM5 WM0 NM0 NM1 NM2 LM0 LM1 LM2 LM3 LM4 LM5 LM6 LM7 LM8 LM9 LM10 LM11 LM12 LM13 LM14 LM15 IM0 IM1 IM2 IM3)) (hS : va_S A s.heap H locs) (ls : Array Slot) (hl : lv_has ls 6 [(0, .ref (aM 0)), (1, .int (nI x1.toNatClampNeg)), (2, .int x2), (3, .long x3_52), (5, .int (nI x5_52))]) (hR : k_52 x3_52 x5_52 = r0), W p l e (headSpec u_Model_level ({ frames := 1, cells := 0, slots := 0, locals := 25 })).room s m ([.ref (aM 0), .int x1, .int x2]).toArray below meth c H locs 0 0 (hh_Zl below (dC, dI) vwCl [(cI, .int), (cJ, .long), (cZ, .boolean)] A r0.1 (w_M cI cJ cZ aM r0.2 VM1 VM2 VM3 VM4 VM5 WM0 NM0 NM1 NM2 LM0 LM1 LM2 LM3 LM4 LM5 LM6 LM7 LM8 LM9 LM10 LM11 LM12 LM13 LM14 LM15 IM0 IM1 IM2 IM3) ([.ref (aM 0), .int x1, .int x2]).toArray s) (F0 m 86 ls []) := by
          intro x3_52 x5_52 hi H locs hP hD hS ls hl hR
          rw [← hk_52] at hR
          unfold f_Model_level_x52 at hR
          refine lv_lload_n hx hb d_Model_level_86 rfl (lv_at hl 3 rfl) ?_
          subst hR
          exact W.lret (v := x3_52) hx hb hr (fun t ht hW => ⟨⟨_, (), rfl, rfl, by rw [ht]; exact hP, va_K.moved hW.alike hK, hD⟩, hS.F ht⟩) hS.2.2 d_Model_level_87
        have L_52 : ∀ (n : Nat) (x3_52 : Int64) (x5_52 : Nat) (hi : x5_52 ≤ VM2) (hfu : VM2 - x5_52 < n) (H : Heap) (locs : List Loc) (hP : va_P (dC, dI) vwCl (w_M cI cJ cZ aM 0 VM1 VM2 VM3 VM4 VM5 WM0 NM0 NM1 NM2 LM0 LM1 LM2 LM3 LM4 LM5 LM6 LM7 LM8 LM9 LM10 LM11 LM12 LM13 LM14 LM15 IM0 IM1 IM2 IM3) H) (hD : va_D A (w_M cI cJ cZ aM 0 VM1 VM2 VM3 VM4 VM5 WM0 NM0 NM1 NM2 LM0 LM1 LM2 LM3 LM4 LM5 LM6 LM7 LM8 LM9 LM10 LM11 LM12 LM13 LM14 LM15 IM0 IM1 IM2 IM3)) (hS : va_S A s.heap H locs) (ls : Array Slot) (hl : lv_has ls 6 [(0, .ref (aM 0)), (1, .int (nI x1.toNatClampNeg)), (2, .int x2), (3, .long x3_52), (5, .int (nI x5_52))]) (hR : f_Model_level_h52 VM2 x2 LM12 x1 k_52 n x3_52 x5_52 = r0), W p l e (headSpec u_Model_level ({ frames := 1, cells := 0, slots := 0, locals := 25 })).room s m ([.ref (aM 0), .int x1, .int x2]).toArray below meth c H locs 0 0 (hh_Zl below (dC, dI) vwCl [(cI, .int), (cJ, .long), (cZ, .boolean)] A r0.1 (w_M cI cJ cZ aM r0.2 VM1 VM2 VM3 VM4 VM5 WM0 NM0 NM1 NM2 LM0 LM1 LM2 LM3 LM4 LM5 LM6 LM7 LM8 LM9 LM10 LM11 LM12 LM13 LM14 LM15 IM0 IM1 IM2 IM3) ([.ref (aM 0), .int x1, .int x2]).toArray s) (F0 m 52 ls []) := by
          intro n
          induction n with
          | zero =>
            intro x3_52 x5_52 hi hfu H locs hP hD hS ls hl hR
            exact absurd hfu (Nat.not_lt_zero _)
          | succ n ih_52 =>
            intro x3_52 x5_52 hi hfu H locs hP hD hS ls hl hR
            rw [f_Model_level_h52] at hR
            obtain ⟨rec_52, hrec_52, hR⟩ : ∃ r, r = _ ∧ f_Model_level_h52B VM2 x2 LM12 x1 k_52 r x3_52 x5_52 = r0 := ⟨_, rfl, hR⟩
            unfold f_Model_level_h52B at hR
            refine lv_iload hx hb d_Model_level_52 (lv_at hl 4 rfl) ?_
            refine lv_aload_n hx hb d_Model_level_54 rfl (lv_at hl 0 rfl) ?_
            refine va_get (D := (dC, dI)) (ci := 5) (v := .int (nI VM2)) (C := R_Model) (T := T_Model) (N := 30) hx hb hG in_Model hown hK hP 0 rfl rfl 6 (by decide) (hG _ m_620) (fun _ h9 => h9) rfl d_Model_level_55 ?_
            refine hw_icmp_ge (tgt := 86) hx hb d_Model_level_58 (by decide) (by omega) (by omega) (fun c58 => ?_) (fun c58 => ?_)
            · replace hR := (if_pos c58).symm.trans hR
              exact X_52 x3_52 x5_52 (by first | assumption | omega | exact hw_upb (by assumption) (by omega)) H locs hP hD hS ls (lv_sub hl [0, 1, 2, 3, 4] rfl) hR
            · replace hR := (if_neg c58).symm.trans hR
              refine lv_iload_n hx hb d_Model_level_61 rfl (lv_at hl 2 rfl) ?_
              refine lv_if_ne (tgt := 86) hx hb d_Model_level_62 (by decide) (fun c62 => ?_) (fun c62 => ?_)
              · replace hR := (if_neg c62).symm.trans hR
                exact X_52 x3_52 x5_52 (by first | assumption | omega | exact hw_upb (by assumption) (by omega)) H locs hP hD hS ls (lv_sub hl [0, 1, 2, 3, 4] rfl) hR
              · replace hR := (if_pos c62).symm.trans hR
                refine lv_lload_n hx hb d_Model_level_65 rfl (lv_at hl 3 rfl) ?_
                refine lv_aload_n hx hb d_Model_level_66 rfl (lv_at hl 0 rfl) ?_
                refine va_get (D := (dC, dI)) (ci := 5) (v := .ref (aM 18)) (C := R_Model) (T := T_Model) (N := 30) hx hb hG in_Model hown hK hP 0 rfl rfl 23 (by decide) (hG _ m_637) (fun _ h9 => h9) rfl d_Model_level_67 ?_
                refine lv_bipush (v := nI 8) hx hb d_Model_level_70 (by decide) ?_
                refine lv_iload_n hx hb d_Model_level_72 rfl (lv_at hl 1 rfl) ?_
                refine hw_imul hx hb d_Model_level_73 ?_
                refine lv_iload hx hb d_Model_level_74 (lv_at hl 4 rfl) ?_
                refine hw_iadd hx hb d_Model_level_76 ?_
                refine hw_lald (f := LM12) hx hb hK hP 18 1 rfl rfl (by decide) (by omega) d_Model_level_77 ?_
                refine lv_lsub hx hb d_Model_level_78 ?_
                refine lv_lstore_n (lv' := [(3, .long (x3_52 - (LM12 ((8 * x1.toNatClampNeg) + x5_52)))), (0, .ref (aM 0)), (1, .int (nI x1.toNatClampNeg)), (2, .int x2), (5, .int (nI x5_52))]) hx hb d_Model_level_79 rfl hl (by decide) rfl (fun ls hl => ?_)
                refine lv_iinc (v := nI (x5_52 + 1)) (lv' := [(5, .int (nI (x5_52 + 1))), (3, .long (x3_52 - (LM12 ((8 * x1.toNatClampNeg) + x5_52)))), (0, .ref (aM 0)), (1, .int (nI x1.toNatClampNeg)), (2, .int x2)]) hx hb d_Model_level_80 hl (k := 4) rfl (hw_inc _ 1) (by decide) rfl (fun ls hl => ?_)
                refine lv_goto (tgt := 52) hx hb d_Model_level_83 (by decide) ?_
                rw [hrec_52] at hR
                exact ih_52 (x3_52 - (LM12 ((8 * x1.toNatClampNeg) + x5_52))) (x5_52 + 1) (by first | assumption | omega | exact hw_upb (by assumption) (by omega)) (by omega) H locs hP hD hS ls (lv_sub hl [2, 3, 4, 1, 0] rfl) hR
        exact L_52 9 y45 0 (by first | assumption | omega | exact hw_upb (by assumption) (by omega)) (by omega) H locs hP hD hS ls (lv_sub hl [2, 3, 4, 1, 0] rfl) hR
      · replace hR := (if_pos c36).symm.trans hR
        refine lv_ldc2 (v := (-1)) hx hb hown (hG _ m_806) d_Model_level_39 ?_
        subst hR
        exact W.lret (v := (-1)) hx hb hr (fun t ht hW => ⟨⟨_, (), rfl, rfl, by rw [ht]; exact hP, va_K.moved hW.alike hK, hD⟩, hS.F ht⟩) hS.2.2 d_Model_level_42
