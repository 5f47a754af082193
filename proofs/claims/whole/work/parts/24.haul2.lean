abbrev b_HaulFlows_workOut : ByteArray := prog_1_method_20_code
def y_HaulFlows_workOut : MethodName := ⟨R_HaulFlows, "workOut", "()I"⟩
def u_HaulFlows_workOut : List Cond := Cond.code y_HaulFlows_workOut b_HaulFlows_workOut 1 (some .int) :: wG
theorem d_HaulFlows_workOut_0 : decode b_HaulFlows_workOut 0 = .ok (.aload_n 0, 1) := by decide +kernel
theorem d_HaulFlows_workOut_1 : decode b_HaulFlows_workOut 1 = .ok (.getfield 12, 3) := by decide +kernel
theorem d_HaulFlows_workOut_4 : decode b_HaulFlows_workOut 4 = .ok (.invokevirtual 191, 3) := by decide +kernel
theorem d_HaulFlows_workOut_7 : decode b_HaulFlows_workOut 7 = .ok (.ifCond .eq 23, 3) := by decide +kernel
theorem d_HaulFlows_workOut_10 : decode b_HaulFlows_workOut 10 = .ok (.aload_n 0, 1) := by decide +kernel
theorem d_HaulFlows_workOut_11 : decode b_HaulFlows_workOut 11 = .ok (.getfield 21, 3) := by decide +kernel
theorem d_HaulFlows_workOut_14 : decode b_HaulFlows_workOut 14 = .ok (.iconst (-1), 1) := by decide +kernel
theorem d_HaulFlows_workOut_15 : decode b_HaulFlows_workOut 15 = .ok (.invokevirtual 161, 3) := by decide +kernel
theorem d_HaulFlows_workOut_18 : decode b_HaulFlows_workOut 18 = .ok (.ifCond .eq 12, 3) := by decide +kernel
theorem d_HaulFlows_workOut_21 : decode b_HaulFlows_workOut 21 = .ok (.aload_n 0, 1) := by decide +kernel
theorem d_HaulFlows_workOut_22 : decode b_HaulFlows_workOut 22 = .ok (.getfield 21, 3) := by decide +kernel
theorem d_HaulFlows_workOut_25 : decode b_HaulFlows_workOut 25 = .ok (.invokevirtual 195, 3) := by decide +kernel
theorem d_HaulFlows_workOut_28 : decode b_HaulFlows_workOut 28 = .ok (.iconst 1, 1) := by decide +kernel
theorem d_HaulFlows_workOut_29 : decode b_HaulFlows_workOut 29 = .ok (.ireturn, 1) := by decide +kernel
theorem d_HaulFlows_workOut_30 : decode b_HaulFlows_workOut 30 = .ok (.aload_n 0, 1) := by decide +kernel
theorem d_HaulFlows_workOut_31 : decode b_HaulFlows_workOut 31 = .ok (.getfield 31, 3) := by decide +kernel
theorem d_HaulFlows_workOut_34 : decode b_HaulFlows_workOut 34 = .ok (.invokevirtual 198, 3) := by decide +kernel
theorem d_HaulFlows_workOut_37 : decode b_HaulFlows_workOut 37 = .ok (.iconst 2, 1) := by decide +kernel
theorem d_HaulFlows_workOut_38 : decode b_HaulFlows_workOut 38 = .ok (.ireturn, 1) := by decide +kernel
abbrev b_HaulFlows_moved : ByteArray := prog_1_method_11_code
def y_HaulFlows_moved : MethodName := ⟨R_HaulFlows, "moved", "(III)J"⟩
def u_HaulFlows_moved : List Cond := Cond.code y_HaulFlows_moved b_HaulFlows_moved 4 (some .long) :: wG
theorem d_HaulFlows_moved_0 : decode b_HaulFlows_moved 0 = .ok (.aload_n 0, 1) := by decide +kernel
theorem d_HaulFlows_moved_1 : decode b_HaulFlows_moved 1 = .ok (.getfield 35, 3) := by decide +kernel
theorem d_HaulFlows_moved_4 : decode b_HaulFlows_moved 4 = .ok (.iconst 1, 1) := by decide +kernel
theorem d_HaulFlows_moved_5 : decode b_HaulFlows_moved 5 = .ok (.if_icmp .ne 39, 3) := by decide +kernel
theorem d_HaulFlows_moved_8 : decode b_HaulFlows_moved 8 = .ok (.iload_n 1, 1) := by decide +kernel
theorem d_HaulFlows_moved_9 : decode b_HaulFlows_moved 9 = .ok (.aload_n 0, 1) := by decide +kernel
theorem d_HaulFlows_moved_10 : decode b_HaulFlows_moved 10 = .ok (.getfield 12, 3) := by decide +kernel
theorem d_HaulFlows_moved_13 : decode b_HaulFlows_moved 13 = .ok (.invokevirtual 110, 3) := by decide +kernel
theorem d_HaulFlows_moved_16 : decode b_HaulFlows_moved 16 = .ok (.invokestatic 43, 3) := by decide +kernel
theorem d_HaulFlows_moved_19 : decode b_HaulFlows_moved 19 = .ok (.ifCond .eq 25, 3) := by decide +kernel
theorem d_HaulFlows_moved_22 : decode b_HaulFlows_moved 22 = .ok (.iload_n 2, 1) := by decide +kernel
theorem d_HaulFlows_moved_23 : decode b_HaulFlows_moved 23 = .ok (.aload_n 0, 1) := by decide +kernel
theorem d_HaulFlows_moved_24 : decode b_HaulFlows_moved 24 = .ok (.getfield 12, 3) := by decide +kernel
theorem d_HaulFlows_moved_27 : decode b_HaulFlows_moved 27 = .ok (.getfield 57, 3) := by decide +kernel
theorem d_HaulFlows_moved_30 : decode b_HaulFlows_moved 30 = .ok (.invokestatic 43, 3) := by decide +kernel
theorem d_HaulFlows_moved_33 : decode b_HaulFlows_moved 33 = .ok (.ifCond .eq 11, 3) := by decide +kernel
theorem d_HaulFlows_moved_36 : decode b_HaulFlows_moved 36 = .ok (.iload_n 3, 1) := by decide +kernel
theorem d_HaulFlows_moved_37 : decode b_HaulFlows_moved 37 = .ok (.iconst 2, 1) := by decide +kernel
theorem d_HaulFlows_moved_38 : decode b_HaulFlows_moved 38 = .ok (.invokestatic 43, 3) := by decide +kernel
theorem d_HaulFlows_moved_41 : decode b_HaulFlows_moved 41 = .ok (.ifCond .ne 7, 3) := by decide +kernel
theorem d_HaulFlows_moved_44 : decode b_HaulFlows_moved 44 = .ok (.ldc2_w 124, 3) := by decide +kernel
theorem d_HaulFlows_moved_47 : decode b_HaulFlows_moved 47 = .ok (.lreturn, 1) := by decide +kernel
theorem d_HaulFlows_moved_48 : decode b_HaulFlows_moved 48 = .ok (.iload_n 3, 1) := by decide +kernel
theorem d_HaulFlows_moved_49 : decode b_HaulFlows_moved 49 = .ok (.ifCond .ne 15, 3) := by decide +kernel
theorem d_HaulFlows_moved_52 : decode b_HaulFlows_moved 52 = .ok (.aload_n 0, 1) := by decide +kernel
theorem d_HaulFlows_moved_53 : decode b_HaulFlows_moved 53 = .ok (.getfield 21, 3) := by decide +kernel
theorem d_HaulFlows_moved_56 : decode b_HaulFlows_moved 56 = .ok (.iload_n 1, 1) := by decide +kernel
theorem d_HaulFlows_moved_57 : decode b_HaulFlows_moved 57 = .ok (.iload_n 2, 1) := by decide +kernel
theorem d_HaulFlows_moved_58 : decode b_HaulFlows_moved 58 = .ok (.invokevirtual 126, 3) := by decide +kernel
theorem d_HaulFlows_moved_61 : decode b_HaulFlows_moved 61 = .ok (.goto 12, 3) := by decide +kernel
theorem d_HaulFlows_moved_64 : decode b_HaulFlows_moved 64 = .ok (.aload_n 0, 1) := by decide +kernel
theorem d_HaulFlows_moved_65 : decode b_HaulFlows_moved 65 = .ok (.getfield 21, 3) := by decide +kernel
theorem d_HaulFlows_moved_68 : decode b_HaulFlows_moved 68 = .ok (.iload_n 1, 1) := by decide +kernel
theorem d_HaulFlows_moved_69 : decode b_HaulFlows_moved 69 = .ok (.iload_n 2, 1) := by decide +kernel
theorem d_HaulFlows_moved_70 : decode b_HaulFlows_moved 70 = .ok (.invokevirtual 130, 3) := by decide +kernel
theorem d_HaulFlows_moved_73 : decode b_HaulFlows_moved 73 = .ok (.lreturn, 1) := by decide +kernel
abbrev b_HaulFlows_cost : ByteArray := prog_1_method_12_code
def y_HaulFlows_cost : MethodName := ⟨R_HaulFlows, "cost", "(I)J"⟩
def u_HaulFlows_cost : List Cond := Cond.code y_HaulFlows_cost b_HaulFlows_cost 2 (some .long) :: wG
theorem d_HaulFlows_cost_0 : decode b_HaulFlows_cost 0 = .ok (.aload_n 0, 1) := by decide +kernel
theorem d_HaulFlows_cost_1 : decode b_HaulFlows_cost 1 = .ok (.getfield 35, 3) := by decide +kernel
theorem d_HaulFlows_cost_4 : decode b_HaulFlows_cost 4 = .ok (.iconst 1, 1) := by decide +kernel
theorem d_HaulFlows_cost_5 : decode b_HaulFlows_cost 5 = .ok (.if_icmp .ne 11, 3) := by decide +kernel
theorem d_HaulFlows_cost_8 : decode b_HaulFlows_cost 8 = .ok (.iload_n 1, 1) := by decide +kernel
theorem d_HaulFlows_cost_9 : decode b_HaulFlows_cost 9 = .ok (.iconst 3, 1) := by decide +kernel
theorem d_HaulFlows_cost_10 : decode b_HaulFlows_cost 10 = .ok (.invokestatic 43, 3) := by decide +kernel
theorem d_HaulFlows_cost_13 : decode b_HaulFlows_cost 13 = .ok (.ifCond .ne 7, 3) := by decide +kernel
theorem d_HaulFlows_cost_16 : decode b_HaulFlows_cost 16 = .ok (.ldc2_w 124, 3) := by decide +kernel
theorem d_HaulFlows_cost_19 : decode b_HaulFlows_cost 19 = .ok (.lreturn, 1) := by decide +kernel
theorem d_HaulFlows_cost_20 : decode b_HaulFlows_cost 20 = .ok (.iload_n 1, 1) := by decide +kernel
theorem d_HaulFlows_cost_21 : decode b_HaulFlows_cost 21 = .ok (.ifCond .ne 11, 3) := by decide +kernel
theorem d_HaulFlows_cost_24 : decode b_HaulFlows_cost 24 = .ok (.aload_n 0, 1) := by decide +kernel
theorem d_HaulFlows_cost_25 : decode b_HaulFlows_cost 25 = .ok (.getfield 21, 3) := by decide +kernel
theorem d_HaulFlows_cost_28 : decode b_HaulFlows_cost 28 = .ok (.invokevirtual 133, 3) := by decide +kernel
theorem d_HaulFlows_cost_31 : decode b_HaulFlows_cost 31 = .ok (.lreturn, 1) := by decide +kernel
theorem d_HaulFlows_cost_32 : decode b_HaulFlows_cost 32 = .ok (.aload_n 0, 1) := by decide +kernel
theorem d_HaulFlows_cost_33 : decode b_HaulFlows_cost 33 = .ok (.getfield 21, 3) := by decide +kernel
theorem d_HaulFlows_cost_36 : decode b_HaulFlows_cost 36 = .ok (.iload_n 1, 1) := by decide +kernel
theorem d_HaulFlows_cost_37 : decode b_HaulFlows_cost 37 = .ok (.iconst 1, 1) := by decide +kernel
theorem d_HaulFlows_cost_38 : decode b_HaulFlows_cost 38 = .ok (.if_icmp .ne 7, 3) := by decide +kernel
theorem d_HaulFlows_cost_41 : decode b_HaulFlows_cost 41 = .ok (.iconst 0, 1) := by decide +kernel
theorem d_HaulFlows_cost_42 : decode b_HaulFlows_cost 42 = .ok (.goto 10, 3) := by decide +kernel
theorem d_HaulFlows_cost_45 : decode b_HaulFlows_cost 45 = .ok (.aload_n 0, 1) := by decide +kernel
theorem d_HaulFlows_cost_46 : decode b_HaulFlows_cost 46 = .ok (.getfield 12, 3) := by decide +kernel
theorem d_HaulFlows_cost_49 : decode b_HaulFlows_cost 49 = .ok (.getfield 50, 3) := by decide +kernel
theorem d_HaulFlows_cost_52 : decode b_HaulFlows_cost 52 = .ok (.aload_n 0, 1) := by decide +kernel
theorem d_HaulFlows_cost_53 : decode b_HaulFlows_cost 53 = .ok (.getfield 12, 3) := by decide +kernel
theorem d_HaulFlows_cost_56 : decode b_HaulFlows_cost 56 = .ok (.invokevirtual 110, 3) := by decide +kernel
theorem d_HaulFlows_cost_59 : decode b_HaulFlows_cost 59 = .ok (.invokevirtual 137, 3) := by decide +kernel
theorem d_HaulFlows_cost_62 : decode b_HaulFlows_cost 62 = .ok (.lreturn, 1) := by decide +kernel
abbrev b_HaulFlows_dual : ByteArray := prog_1_method_13_code
def y_HaulFlows_dual : MethodName := ⟨R_HaulFlows, "dual", "(III)J"⟩
def u_HaulFlows_dual : List Cond := Cond.code y_HaulFlows_dual b_HaulFlows_dual 4 (some .long) :: wG
theorem d_HaulFlows_dual_0 : decode b_HaulFlows_dual 0 = .ok (.aload_n 0, 1) := by decide +kernel
theorem d_HaulFlows_dual_1 : decode b_HaulFlows_dual 1 = .ok (.getfield 35, 3) := by decide +kernel
theorem d_HaulFlows_dual_4 : decode b_HaulFlows_dual 4 = .ok (.iconst 1, 1) := by decide +kernel
theorem d_HaulFlows_dual_5 : decode b_HaulFlows_dual 5 = .ok (.if_icmp .ne 19, 3) := by decide +kernel
theorem d_HaulFlows_dual_8 : decode b_HaulFlows_dual 8 = .ok (.iload_n 1, 1) := by decide +kernel
theorem d_HaulFlows_dual_9 : decode b_HaulFlows_dual 9 = .ok (.iconst 2, 1) := by decide +kernel
theorem d_HaulFlows_dual_10 : decode b_HaulFlows_dual 10 = .ok (.invokestatic 43, 3) := by decide +kernel
theorem d_HaulFlows_dual_13 : decode b_HaulFlows_dual 13 = .ok (.ifCond .eq 11, 3) := by decide +kernel
theorem d_HaulFlows_dual_16 : decode b_HaulFlows_dual 16 = .ok (.iload_n 3, 1) := by decide +kernel
theorem d_HaulFlows_dual_17 : decode b_HaulFlows_dual 17 = .ok (.iconst 2, 1) := by decide +kernel
theorem d_HaulFlows_dual_18 : decode b_HaulFlows_dual 18 = .ok (.invokestatic 43, 3) := by decide +kernel
theorem d_HaulFlows_dual_21 : decode b_HaulFlows_dual 21 = .ok (.ifCond .ne 7, 3) := by decide +kernel
theorem d_HaulFlows_dual_24 : decode b_HaulFlows_dual 24 = .ok (.ldc2_w 124, 3) := by decide +kernel
theorem d_HaulFlows_dual_27 : decode b_HaulFlows_dual 27 = .ok (.lreturn, 1) := by decide +kernel
theorem d_HaulFlows_dual_28 : decode b_HaulFlows_dual 28 = .ok (.iload_n 2, 1) := by decide +kernel
theorem d_HaulFlows_dual_29 : decode b_HaulFlows_dual 29 = .ok (.iload_n 1, 1) := by decide +kernel
theorem d_HaulFlows_dual_30 : decode b_HaulFlows_dual 30 = .ok (.ifCond .ne 13, 3) := by decide +kernel
theorem d_HaulFlows_dual_33 : decode b_HaulFlows_dual 33 = .ok (.aload_n 0, 1) := by decide +kernel
theorem d_HaulFlows_dual_34 : decode b_HaulFlows_dual 34 = .ok (.getfield 12, 3) := by decide +kernel
theorem d_HaulFlows_dual_37 : decode b_HaulFlows_dual 37 = .ok (.getfield 50, 3) := by decide +kernel
theorem d_HaulFlows_dual_40 : decode b_HaulFlows_dual 40 = .ok (.goto 10, 3) := by decide +kernel
theorem d_HaulFlows_dual_43 : decode b_HaulFlows_dual 43 = .ok (.aload_n 0, 1) := by decide +kernel
theorem d_HaulFlows_dual_44 : decode b_HaulFlows_dual 44 = .ok (.getfield 12, 3) := by decide +kernel
theorem d_HaulFlows_dual_47 : decode b_HaulFlows_dual 47 = .ok (.getfield 57, 3) := by decide +kernel
theorem d_HaulFlows_dual_50 : decode b_HaulFlows_dual 50 = .ok (.invokestatic 43, 3) := by decide +kernel
theorem d_HaulFlows_dual_53 : decode b_HaulFlows_dual 53 = .ok (.ifCond .ne 7, 3) := by decide +kernel
theorem d_HaulFlows_dual_56 : decode b_HaulFlows_dual 56 = .ok (.ldc2_w 124, 3) := by decide +kernel
theorem d_HaulFlows_dual_59 : decode b_HaulFlows_dual 59 = .ok (.lreturn, 1) := by decide +kernel
theorem d_HaulFlows_dual_60 : decode b_HaulFlows_dual 60 = .ok (.iload_n 1, 1) := by decide +kernel
theorem d_HaulFlows_dual_61 : decode b_HaulFlows_dual 61 = .ok (.iconst 1, 1) := by decide +kernel
theorem d_HaulFlows_dual_62 : decode b_HaulFlows_dual 62 = .ok (.if_icmp .ne 16, 3) := by decide +kernel
theorem d_HaulFlows_dual_65 : decode b_HaulFlows_dual 65 = .ok (.aload_n 0, 1) := by decide +kernel
theorem d_HaulFlows_dual_66 : decode b_HaulFlows_dual 66 = .ok (.getfield 21, 3) := by decide +kernel
theorem d_HaulFlows_dual_69 : decode b_HaulFlows_dual 69 = .ok (.iload_n 2, 1) := by decide +kernel
theorem d_HaulFlows_dual_70 : decode b_HaulFlows_dual 70 = .ok (.invokevirtual 140, 3) := by decide +kernel
theorem d_HaulFlows_dual_73 : decode b_HaulFlows_dual 73 = .ok (.iload_n 3, 1) := by decide +kernel
theorem d_HaulFlows_dual_74 : decode b_HaulFlows_dual 74 = .ok (.invokestatic 144, 3) := by decide +kernel
theorem d_HaulFlows_dual_77 : decode b_HaulFlows_dual 77 = .ok (.lreturn, 1) := by decide +kernel
theorem d_HaulFlows_dual_78 : decode b_HaulFlows_dual 78 = .ok (.aload_n 0, 1) := by decide +kernel
theorem d_HaulFlows_dual_79 : decode b_HaulFlows_dual 79 = .ok (.getfield 12, 3) := by decide +kernel
theorem d_HaulFlows_dual_82 : decode b_HaulFlows_dual 82 = .ok (.iload_n 2, 1) := by decide +kernel
theorem d_HaulFlows_dual_83 : decode b_HaulFlows_dual 83 = .ok (.invokevirtual 148, 3) := by decide +kernel
theorem d_HaulFlows_dual_86 : decode b_HaulFlows_dual 86 = .ok (.lconst 0, 1) := by decide +kernel
theorem d_HaulFlows_dual_87 : decode b_HaulFlows_dual 87 = .ok (.lcmp, 1) := by decide +kernel
theorem d_HaulFlows_dual_88 : decode b_HaulFlows_dual 88 = .ok (.ifCond .ne 9, 3) := by decide +kernel
theorem d_HaulFlows_dual_91 : decode b_HaulFlows_dual 91 = .ok (.ldc2_w 124, 3) := by decide +kernel
theorem d_HaulFlows_dual_94 : decode b_HaulFlows_dual 94 = .ok (.goto 15, 3) := by decide +kernel
theorem d_HaulFlows_dual_97 : decode b_HaulFlows_dual 97 = .ok (.aload_n 0, 1) := by decide +kernel
theorem d_HaulFlows_dual_98 : decode b_HaulFlows_dual 98 = .ok (.getfield 21, 3) := by decide +kernel
theorem d_HaulFlows_dual_101 : decode b_HaulFlows_dual 101 = .ok (.iload_n 2, 1) := by decide +kernel
theorem d_HaulFlows_dual_102 : decode b_HaulFlows_dual 102 = .ok (.invokevirtual 151, 3) := by decide +kernel
theorem d_HaulFlows_dual_105 : decode b_HaulFlows_dual 105 = .ok (.iload_n 3, 1) := by decide +kernel
theorem d_HaulFlows_dual_106 : decode b_HaulFlows_dual 106 = .ok (.invokestatic 144, 3) := by decide +kernel
theorem d_HaulFlows_dual_109 : decode b_HaulFlows_dual 109 = .ok (.lreturn, 1) := by decide +kernel
abbrev b_HaulFlows_clash : ByteArray := prog_1_method_14_code
def y_HaulFlows_clash : MethodName := ⟨R_HaulFlows, "clash", "(I)I"⟩
def u_HaulFlows_clash : List Cond := Cond.code y_HaulFlows_clash b_HaulFlows_clash 2 (some .int) :: wG
theorem d_HaulFlows_clash_0 : decode b_HaulFlows_clash 0 = .ok (.aload_n 0, 1) := by decide +kernel
theorem d_HaulFlows_clash_1 : decode b_HaulFlows_clash 1 = .ok (.getfield 35, 3) := by decide +kernel
theorem d_HaulFlows_clash_4 : decode b_HaulFlows_clash 4 = .ok (.iconst 2, 1) := by decide +kernel
theorem d_HaulFlows_clash_5 : decode b_HaulFlows_clash 5 = .ok (.if_icmp .ne 17, 3) := by decide +kernel
theorem d_HaulFlows_clash_8 : decode b_HaulFlows_clash 8 = .ok (.iload_n 1, 1) := by decide +kernel
theorem d_HaulFlows_clash_9 : decode b_HaulFlows_clash 9 = .ok (.aload_n 0, 1) := by decide +kernel
theorem d_HaulFlows_clash_10 : decode b_HaulFlows_clash 10 = .ok (.getfield 31, 3) := by decide +kernel
theorem d_HaulFlows_clash_13 : decode b_HaulFlows_clash 13 = .ok (.getfield 154, 3) := by decide +kernel
theorem d_HaulFlows_clash_16 : decode b_HaulFlows_clash 16 = .ok (.invokestatic 43, 3) := by decide +kernel
theorem d_HaulFlows_clash_19 : decode b_HaulFlows_clash 19 = .ok (.ifCond .ne 5, 3) := by decide +kernel
theorem d_HaulFlows_clash_22 : decode b_HaulFlows_clash 22 = .ok (.iconst (-1), 1) := by decide +kernel
theorem d_HaulFlows_clash_23 : decode b_HaulFlows_clash 23 = .ok (.ireturn, 1) := by decide +kernel
theorem d_HaulFlows_clash_24 : decode b_HaulFlows_clash 24 = .ok (.aload_n 0, 1) := by decide +kernel
theorem d_HaulFlows_clash_25 : decode b_HaulFlows_clash 25 = .ok (.getfield 31, 3) := by decide +kernel
theorem d_HaulFlows_clash_28 : decode b_HaulFlows_clash 28 = .ok (.getfield 157, 3) := by decide +kernel
theorem d_HaulFlows_clash_31 : decode b_HaulFlows_clash 31 = .ok (.iload_n 1, 1) := by decide +kernel
theorem d_HaulFlows_clash_32 : decode b_HaulFlows_clash 32 = .ok (.iaload, 1) := by decide +kernel
theorem d_HaulFlows_clash_33 : decode b_HaulFlows_clash 33 = .ok (.ireturn, 1) := by decide +kernel
abbrev b_HaulFlows_closure : ByteArray := prog_1_method_15_code
def y_HaulFlows_closure : MethodName := ⟨R_HaulFlows, "closure", "(II)J"⟩
def u_HaulFlows_closure : List Cond := Cond.code y_HaulFlows_closure b_HaulFlows_closure 4 (some .long) :: wG
theorem d_HaulFlows_closure_0 : decode b_HaulFlows_closure 0 = .ok (.aload_n 0, 1) := by decide +kernel
theorem d_HaulFlows_closure_1 : decode b_HaulFlows_closure 1 = .ok (.getfield 35, 3) := by decide +kernel
theorem d_HaulFlows_closure_4 : decode b_HaulFlows_closure 4 = .ok (.iconst 1, 1) := by decide +kernel
theorem d_HaulFlows_closure_5 : decode b_HaulFlows_closure 5 = .ok (.if_icmp .ne 28, 3) := by decide +kernel
theorem d_HaulFlows_closure_8 : decode b_HaulFlows_closure 8 = .ok (.iload_n 1, 1) := by decide +kernel
theorem d_HaulFlows_closure_9 : decode b_HaulFlows_closure 9 = .ok (.aload_n 0, 1) := by decide +kernel
theorem d_HaulFlows_closure_10 : decode b_HaulFlows_closure 10 = .ok (.getfield 12, 3) := by decide +kernel
theorem d_HaulFlows_closure_13 : decode b_HaulFlows_closure 13 = .ok (.getfield 81, 3) := by decide +kernel
theorem d_HaulFlows_closure_16 : decode b_HaulFlows_closure 16 = .ok (.getfield 85, 3) := by decide +kernel
theorem d_HaulFlows_closure_19 : decode b_HaulFlows_closure 19 = .ok (.invokestatic 43, 3) := by decide +kernel
theorem d_HaulFlows_closure_22 : decode b_HaulFlows_closure 22 = .ok (.ifCond .eq 11, 3) := by decide +kernel
theorem d_HaulFlows_closure_25 : decode b_HaulFlows_closure 25 = .ok (.iload_n 2, 1) := by decide +kernel
theorem d_HaulFlows_closure_26 : decode b_HaulFlows_closure 26 = .ok (.iconst 2, 1) := by decide +kernel
theorem d_HaulFlows_closure_27 : decode b_HaulFlows_closure 27 = .ok (.invokestatic 43, 3) := by decide +kernel
theorem d_HaulFlows_closure_30 : decode b_HaulFlows_closure 30 = .ok (.ifCond .ne 7, 3) := by decide +kernel
theorem d_HaulFlows_closure_33 : decode b_HaulFlows_closure 33 = .ok (.ldc2_w 124, 3) := by decide +kernel
theorem d_HaulFlows_closure_36 : decode b_HaulFlows_closure 36 = .ok (.lreturn, 1) := by decide +kernel
theorem d_HaulFlows_closure_37 : decode b_HaulFlows_closure 37 = .ok (.aload_n 0, 1) := by decide +kernel
theorem d_HaulFlows_closure_38 : decode b_HaulFlows_closure 38 = .ok (.getfield 25, 3) := by decide +kernel
theorem d_HaulFlows_closure_41 : decode b_HaulFlows_closure 41 = .ok (.iload_n 1, 1) := by decide +kernel
theorem d_HaulFlows_closure_42 : decode b_HaulFlows_closure 42 = .ok (.invokevirtual 161, 3) := by decide +kernel
theorem d_HaulFlows_closure_45 : decode b_HaulFlows_closure 45 = .ok (.istore_n 3, 1) := by decide +kernel
theorem d_HaulFlows_closure_46 : decode b_HaulFlows_closure 46 = .ok (.iload_n 3, 1) := by decide +kernel
theorem d_HaulFlows_closure_47 : decode b_HaulFlows_closure 47 = .ok (.ifCond .eq 21, 3) := by decide +kernel
theorem d_HaulFlows_closure_50 : decode b_HaulFlows_closure 50 = .ok (.aload_n 0, 1) := by decide +kernel
theorem d_HaulFlows_closure_51 : decode b_HaulFlows_closure 51 = .ok (.getfield 25, 3) := by decide +kernel
theorem d_HaulFlows_closure_54 : decode b_HaulFlows_closure 54 = .ok (.invokevirtual 133, 3) := by decide +kernel
theorem d_HaulFlows_closure_57 : decode b_HaulFlows_closure 57 = .ok (.aload_n 0, 1) := by decide +kernel
theorem d_HaulFlows_closure_58 : decode b_HaulFlows_closure 58 = .ok (.getfield 21, 3) := by decide +kernel
theorem d_HaulFlows_closure_61 : decode b_HaulFlows_closure 61 = .ok (.invokevirtual 133, 3) := by decide +kernel
theorem d_HaulFlows_closure_64 : decode b_HaulFlows_closure 64 = .ok (.lsub, 1) := by decide +kernel
theorem d_HaulFlows_closure_65 : decode b_HaulFlows_closure 65 = .ok (.goto 6, 3) := by decide +kernel
theorem d_HaulFlows_closure_68 : decode b_HaulFlows_closure 68 = .ok (.ldc2_w 124, 3) := by decide +kernel
theorem d_HaulFlows_closure_71 : decode b_HaulFlows_closure 71 = .ok (.iload_n 2, 1) := by decide +kernel
theorem d_HaulFlows_closure_72 : decode b_HaulFlows_closure 72 = .ok (.invokestatic 144, 3) := by decide +kernel
theorem d_HaulFlows_closure_75 : decode b_HaulFlows_closure 75 = .ok (.lreturn, 1) := by decide +kernel
def f_HaulFlows_workOut (VS0 : Nat) (VS1 : Nat) (VS2 : Nat) (NS0 : Nat → Nat) (NS1 : Nat → Nat) (NS2 : Nat → Nat) (LS0 : Nat → Int64) (LS1 : Nat → Int64) (LS2 : Nat → Int64) (LS3 : Nat → Int64) (LS4 : Nat → Int64) (LS5 : Nat → Int64) (LS6 : Nat → Int64) (LS7 : Nat → Int64) (LS8 : Nat → Int64) (IS0 : Nat → Int32) (VY0 : Nat) (LY0 : Nat → Int64) (LY1 : Nat → Int64) (LY2 : Nat → Int64) (IY0 : Nat → Int32) (VP0 : Nat) (VP1 : Nat) (VP2 : Nat) (NP0 : Nat → Nat) (LP0 : Nat → Int64) (LP1 : Nat → Int64) (LP2 : Nat → Int64) (LP3 : Nat → Int64) (LP4 : Nat → Int64) (IP0 : Nat → Int32) (IP1 : Nat → Int32) (VT0 : Nat) (NT0 : Nat → Nat) (NT1 : Nat → Nat) (LT0 : Nat → Int64) (IT0 : Nat → Int32) : Nat × (Nat) × (Nat) × (Nat) × (Nat → Nat) × (Nat → Int64) × (Nat → Int64) × (Nat → Int64) × (Nat → Int64) × (Nat → Int64) × (Nat → Int32) × (Nat → Int32) × (Nat) × (Nat → Nat) × (Nat → Nat) × (Nat → Int64) × (Nat → Int32) :=
  hh_bind (f_Site_weeksSuffice VS2 NS2 LS4 LS8) (fun y4 => if y4 = 0 then (hh_bind (f_Shortage_find NT0 NT1 LT0 IT0 VS0 VS1 VS2 NS0 NS1 NS2 LS0 LS4 LS6 LS7 LS8 IS0) (fun y34 => (2, VP0, VP1, VP2, NP0, LP0, LP1, LP2, LP3, LP4, IP0, IP1, y34.2.2.2.1, y34.2.2.2.2, y34.2.2.1, y34.1, y34.2.1))) else (hh_bind (f_Plan_makeCheapest LP0 LP1 LP2 LP3 LP4 IP0 IP1 VS0 VS1 VS2 NS0 NS1 NS2 LS0 LS1 LS2 LS3 LS4 LS5 LS6 LS7 IS0 VY0 LY0 LY1 LY2 IY0 (-1)) (fun y15 => if y15.1 = 0 then (hh_bind (f_Shortage_find NT0 NT1 LT0 IT0 VS0 VS1 VS2 NS0 NS1 NS2 LS0 LS4 LS6 LS7 LS8 IS0) (fun y34 => (2, y15.2.1, y15.2.2.1, VP2, NP0, y15.2.2.2.1, y15.2.2.2.2.1, y15.2.2.2.2.2.1, y15.2.2.2.2.2.2.1, y15.2.2.2.2.2.2.2.1, y15.2.2.2.2.2.2.2.2.1, y15.2.2.2.2.2.2.2.2.2, y34.2.2.2.1, y34.2.2.2.2, y34.2.2.1, y34.1, y34.2.1))) else (hh_bind (f_Plan_makeFirst y15.2.1 y15.2.2.1 VP2 NP0 y15.2.2.2.1 y15.2.2.2.2.1 y15.2.2.2.2.2.1 y15.2.2.2.2.2.2.1 y15.2.2.2.2.2.2.2.2.2) (fun y25 => (1, y15.2.1, y15.2.2.1, y25.2.1, y25.2.2.1, y15.2.2.2.1, y25.1, y15.2.2.2.2.2.1, y15.2.2.2.2.2.2.1, y15.2.2.2.2.2.2.2.1, y15.2.2.2.2.2.2.2.2.1, y25.2.2.2, VT0, NT0, NT1, LT0, IT0))))))
set_option maxHeartbeats 4000000 in
set_option maxRecDepth 100000 in
theorem c_HaulFlows_workOut (l : Launch) (dC : Nat → ClassId) (dI : Nat → Nat → Nat) (cI cJ cZ : ClassId) (sz : Nat) (aH : Nat → Nat) (VH0 : Nat) (aS : Nat → Nat) (VS0 : Nat) (VS1 : Nat) (VS2 : Nat) (NS0 : Nat → Nat) (NS1 : Nat → Nat) (NS2 : Nat → Nat) (LS0 : Nat → Int64) (LS1 : Nat → Int64) (LS2 : Nat → Int64) (LS3 : Nat → Int64) (LS4 : Nat → Int64) (LS5 : Nat → Int64) (LS6 : Nat → Int64) (LS7 : Nat → Int64) (LS8 : Nat → Int64) (IS0 : Nat → Int32) (aY : Nat → Nat) (VY0 : Nat) (LY0 : Nat → Int64) (LY1 : Nat → Int64) (LY2 : Nat → Int64) (IY0 : Nat → Int32) (aP : Nat → Nat) (VP0 : Nat) (VP1 : Nat) (VP2 : Nat) (NP0 : Nat → Nat) (LP0 : Nat → Int64) (LP1 : Nat → Int64) (LP2 : Nat → Int64) (LP3 : Nat → Int64) (LP4 : Nat → Int64) (IP0 : Nat → Int32) (IP1 : Nat → Int32) (aQ : Nat → Nat) (VQ0 : Nat) (VQ1 : Nat) (VQ2 : Nat) (NQ0 : Nat → Nat) (LQ0 : Nat → Int64) (LQ1 : Nat → Int64) (LQ2 : Nat → Int64) (LQ3 : Nat → Int64) (LQ4 : Nat → Int64) (IQ0 : Nat → Int32) (IQ1 : Nat → Int32) (aT : Nat → Nat) (VT0 : Nat) (NT0 : Nat → Nat) (NT1 : Nat → Nat) (LT0 : Nat → Int64) (IT0 : Nat → Int32) (hc8 : VS0 ≤ 8) (hp4 : VS1 ≤ 4) (hf8 : VS2 ≤ 8) (hy6 : VY0 ≤ 6) (hk4 : ∀ i, NS0 i < 4) (hcw : ∀ i, NS1 i < 12) (hfw : ∀ i, NS2 i < 12) (hq : ∀ i, NP0 i < 21) (htq : ∀ i, NT1 i < 34) : hh_Ci l y_HaulFlows_workOut u_HaulFlows_workOut ({ frames := 5, cells := 0, slots := 0, locals := 127 }) (dC, dI) vwCl [(cI, .int), (cJ, .long), (cZ, .boolean)] (w_H cI cJ cZ aH VH0 aS aP aQ aT ++ w_S cI cJ cZ aS VS0 VS1 VS2 NS0 NS1 NS2 LS0 LS1 LS2 LS3 LS4 LS5 LS6 LS7 LS8 IS0 aY ++ w_Y cI cJ cZ aY VY0 LY0 LY1 LY2 IY0 ++ w_P cI cJ cZ aP VP0 VP1 VP2 NP0 LP0 LP1 LP2 LP3 LP4 IP0 IP1 aS ++ w_P cI cJ cZ aQ VQ0 VQ1 VQ2 NQ0 LQ0 LQ1 LQ2 LQ3 LQ4 IQ0 IQ1 aS ++ w_T cI cJ cZ aT VT0 NT0 NT1 LT0 IT0 aS) sz [.ref (aH 0)] (nI ((f_HaulFlows_workOut VS0 VS1 VS2 NS0 NS1 NS2 LS0 LS1 LS2 LS3 LS4 LS5 LS6 LS7 LS8 IS0 VY0 LY0 LY1 LY2 IY0 VP0 VP1 VP2 NP0 LP0 LP1 LP2 LP3 LP4 IP0 IP1 VT0 NT0 NT1 LT0 IT0).1)) (w_H cI cJ cZ aH VH0 aS aP aQ aT ++ w_S cI cJ cZ aS VS0 VS1 VS2 NS0 NS1 NS2 LS0 LS1 LS2 LS3 LS4 LS5 LS6 LS7 LS8 IS0 aY ++ w_Y cI cJ cZ aY VY0 LY0 LY1 LY2 IY0 ++ w_P cI cJ cZ aP ((f_HaulFlows_workOut VS0 VS1 VS2 NS0 NS1 NS2 LS0 LS1 LS2 LS3 LS4 LS5 LS6 LS7 LS8 IS0 VY0 LY0 LY1 LY2 IY0 VP0 VP1 VP2 NP0 LP0 LP1 LP2 LP3 LP4 IP0 IP1 VT0 NT0 NT1 LT0 IT0).2.1) ((f_HaulFlows_workOut VS0 VS1 VS2 NS0 NS1 NS2 LS0 LS1 LS2 LS3 LS4 LS5 LS6 LS7 LS8 IS0 VY0 LY0 LY1 LY2 IY0 VP0 VP1 VP2 NP0 LP0 LP1 LP2 LP3 LP4 IP0 IP1 VT0 NT0 NT1 LT0 IT0).2.2.1) ((f_HaulFlows_workOut VS0 VS1 VS2 NS0 NS1 NS2 LS0 LS1 LS2 LS3 LS4 LS5 LS6 LS7 LS8 IS0 VY0 LY0 LY1 LY2 IY0 VP0 VP1 VP2 NP0 LP0 LP1 LP2 LP3 LP4 IP0 IP1 VT0 NT0 NT1 LT0 IT0).2.2.2.1) ((f_HaulFlows_workOut VS0 VS1 VS2 NS0 NS1 NS2 LS0 LS1 LS2 LS3 LS4 LS5 LS6 LS7 LS8 IS0 VY0 LY0 LY1 LY2 IY0 VP0 VP1 VP2 NP0 LP0 LP1 LP2 LP3 LP4 IP0 IP1 VT0 NT0 NT1 LT0 IT0).2.2.2.2.1) ((f_HaulFlows_workOut VS0 VS1 VS2 NS0 NS1 NS2 LS0 LS1 LS2 LS3 LS4 LS5 LS6 LS7 LS8 IS0 VY0 LY0 LY1 LY2 IY0 VP0 VP1 VP2 NP0 LP0 LP1 LP2 LP3 LP4 IP0 IP1 VT0 NT0 NT1 LT0 IT0).2.2.2.2.2.1) ((f_HaulFlows_workOut VS0 VS1 VS2 NS0 NS1 NS2 LS0 LS1 LS2 LS3 LS4 LS5 LS6 LS7 LS8 IS0 VY0 LY0 LY1 LY2 IY0 VP0 VP1 VP2 NP0 LP0 LP1 LP2 LP3 LP4 IP0 IP1 VT0 NT0 NT1 LT0 IT0).2.2.2.2.2.2.1) ((f_HaulFlows_workOut VS0 VS1 VS2 NS0 NS1 NS2 LS0 LS1 LS2 LS3 LS4 LS5 LS6 LS7 LS8 IS0 VY0 LY0 LY1 LY2 IY0 VP0 VP1 VP2 NP0 LP0 LP1 LP2 LP3 LP4 IP0 IP1 VT0 NT0 NT1 LT0 IT0).2.2.2.2.2.2.2.1) ((f_HaulFlows_workOut VS0 VS1 VS2 NS0 NS1 NS2 LS0 LS1 LS2 LS3 LS4 LS5 LS6 LS7 LS8 IS0 VY0 LY0 LY1 LY2 IY0 VP0 VP1 VP2 NP0 LP0 LP1 LP2 LP3 LP4 IP0 IP1 VT0 NT0 NT1 LT0 IT0).2.2.2.2.2.2.2.2.1) ((f_HaulFlows_workOut VS0 VS1 VS2 NS0 NS1 NS2 LS0 LS1 LS2 LS3 LS4 LS5 LS6 LS7 LS8 IS0 VY0 LY0 LY1 LY2 IY0 VP0 VP1 VP2 NP0 LP0 LP1 LP2 LP3 LP4 IP0 IP1 VT0 NT0 NT1 LT0 IT0).2.2.2.2.2.2.2.2.2.1) ((f_HaulFlows_workOut VS0 VS1 VS2 NS0 NS1 NS2 LS0 LS1 LS2 LS3 LS4 LS5 LS6 LS7 LS8 IS0 VY0 LY0 LY1 LY2 IY0 VP0 VP1 VP2 NP0 LP0 LP1 LP2 LP3 LP4 IP0 IP1 VT0 NT0 NT1 LT0 IT0).2.2.2.2.2.2.2.2.2.2.1) ((f_HaulFlows_workOut VS0 VS1 VS2 NS0 NS1 NS2 LS0 LS1 LS2 LS3 LS4 LS5 LS6 LS7 LS8 IS0 VY0 LY0 LY1 LY2 IY0 VP0 VP1 VP2 NP0 LP0 LP1 LP2 LP3 LP4 IP0 IP1 VT0 NT0 NT1 LT0 IT0).2.2.2.2.2.2.2.2.2.2.2.1) aS ++ w_P cI cJ cZ aQ VQ0 VQ1 VQ2 NQ0 LQ0 LQ1 LQ2 LQ3 LQ4 IQ0 IQ1 aS ++ w_T cI cJ cZ aT ((f_HaulFlows_workOut VS0 VS1 VS2 NS0 NS1 NS2 LS0 LS1 LS2 LS3 LS4 LS5 LS6 LS7 LS8 IS0 VY0 LY0 LY1 LY2 IY0 VP0 VP1 VP2 NP0 LP0 LP1 LP2 LP3 LP4 IP0 IP1 VT0 NT0 NT1 LT0 IT0).2.2.2.2.2.2.2.2.2.2.2.2.1) ((f_HaulFlows_workOut VS0 VS1 VS2 NS0 NS1 NS2 LS0 LS1 LS2 LS3 LS4 LS5 LS6 LS7 LS8 IS0 VY0 LY0 LY1 LY2 IY0 VP0 VP1 VP2 NP0 LP0 LP1 LP2 LP3 LP4 IP0 IP1 VT0 NT0 NT1 LT0 IT0).2.2.2.2.2.2.2.2.2.2.2.2.2.1) ((f_HaulFlows_workOut VS0 VS1 VS2 NS0 NS1 NS2 LS0 LS1 LS2 LS3 LS4 LS5 LS6 LS7 LS8 IS0 VY0 LY0 LY1 LY2 IY0 VP0 VP1 VP2 NP0 LP0 LP1 LP2 LP3 LP4 IP0 IP1 VT0 NT0 NT1 LT0 IT0).2.2.2.2.2.2.2.2.2.2.2.2.2.2.1) ((f_HaulFlows_workOut VS0 VS1 VS2 NS0 NS1 NS2 LS0 LS1 LS2 LS3 LS4 LS5 LS6 LS7 LS8 IS0 VY0 LY0 LY1 LY2 IY0 VP0 VP1 VP2 NP0 LP0 LP1 LP2 LP3 LP4 IP0 IP1 VT0 NT0 NT1 LT0 IT0).2.2.2.2.2.2.2.2.2.2.2.2.2.2.2.1) ((f_HaulFlows_workOut VS0 VS1 VS2 NS0 NS1 NS2 LS0 LS1 LS2 LS3 LS4 LS5 LS6 LS7 LS8 IS0 VY0 LY0 LY1 LY2 IY0 VP0 VP1 VP2 NP0 LP0 LP1 LP2 LP3 LP4 IP0 IP1 VT0 NT0 NT1 LT0 IT0).2.2.2.2.2.2.2.2.2.2.2.2.2.2.2.2) aS) 0 0 := by
  unfold hh_Ci
  refine Met.ofW (cc := b_HaulFlows_workOut) (maxL := 1) (ret := (some .int)) (by decide) rfl ?_
  intro p e s m args below meth c s₁ B hml hv
  obtain ⟨rfl, hsz, hP, hK, hD0⟩ := hv
  have hx := B.exec
  have hb := B.bytes
  have hr := B.returns
  have hts := atoms_spec (ws := u_HaulFlows_workOut) B.pre
  have hG : ∀ w ∈ wG, w.before ([.ref (aH 0)]).toArray s = true := fun w h => hts w (List.mem_cons_of_mem _ h)
  have hown : s.vm.findClass R_HaulFlows = some m.cls := findClass_of_methodNamed B.named
  have hlocks := B.notSynchronized
  subst hsz
  have hD := hD0.self (sz := s.heap.size)
  generalize hAe : va_A (w_H cI cJ cZ aH VH0 aS aP aQ aT ++ w_S cI cJ cZ aS VS0 VS1 VS2 NS0 NS1 NS2 LS0 LS1 LS2 LS3 LS4 LS5 LS6 LS7 LS8 IS0 aY ++ w_Y cI cJ cZ aY VY0 LY0 LY1 LY2 IY0 ++ w_P cI cJ cZ aP VP0 VP1 VP2 NP0 LP0 LP1 LP2 LP3 LP4 IP0 IP1 aS ++ w_P cI cJ cZ aQ VQ0 VQ1 VQ2 NQ0 LQ0 LQ1 LQ2 LQ3 LQ4 IQ0 IQ1 aS ++ w_T cI cJ cZ aT VT0 NT0 NT1 LT0 IT0 aS) s.heap.size = A at hD ⊢
  have hA : ∀ q : Nat, s.heap.size ≤ q → A q := fun q h => by rw [← hAe]; exact Or.inr h
  have hS : va_S A s.heap s.heap [] := va_S.rf
  have hl := lv_entry ([.ref (aH 0)]) (n := 1) (Nat.le_of_ble_eq_true rfl)
  rw [lg_entry_eq]
  generalize (lg_sl ([.ref (aH 0)]) ++ List.replicate (1 - (lg_sl ([.ref (aH 0)])).length) Slot.unset).toArray = ls at hl ⊢
  have hl : lv_has ls 1 [(0, .ref (aH 0))] := hl
  generalize hR : f_HaulFlows_workOut VS0 VS1 VS2 NS0 NS1 NS2 LS0 LS1 LS2 LS3 LS4 LS5 LS6 LS7 LS8 IS0 VY0 LY0 LY1 LY2 IY0 VP0 VP1 VP2 NP0 LP0 LP1 LP2 LP3 LP4 IP0 IP1 VT0 NT0 NT1 LT0 IT0 = r0
  obtain ⟨H, locs, hHe, hle⟩ : ∃ (H : Heap) (locs : List Loc), s.heap = H ∧ [] = locs := ⟨_, _, rfl, rfl⟩
  have hP : va_P (dC, dI) vwCl (w_H cI cJ cZ aH VH0 aS aP aQ aT ++ w_S cI cJ cZ aS VS0 VS1 VS2 NS0 NS1 NS2 LS0 LS1 LS2 LS3 LS4 LS5 LS6 LS7 LS8 IS0 aY ++ w_Y cI cJ cZ aY VY0 LY0 LY1 LY2 IY0 ++ w_P cI cJ cZ aP VP0 VP1 VP2 NP0 LP0 LP1 LP2 LP3 LP4 IP0 IP1 aS ++ w_P cI cJ cZ aQ VQ0 VQ1 VQ2 NQ0 LQ0 LQ1 LQ2 LQ3 LQ4 IQ0 IQ1 aS ++ w_T cI cJ cZ aT VT0 NT0 NT1 LT0 IT0 aS) H := by rw [← hHe]; exact hP
  have hS : va_S A s.heap H locs := by rw [← hHe, ← hle]; exact hS
  refine hw_start hHe hle ?_
  unfold f_HaulFlows_workOut at hR
  refine lv_aload_n hx hb d_HaulFlows_workOut_0 rfl (lv_at hl 0 rfl) ?_
  refine va_get (D := (dC, dI)) (ci := 4) (v := .ref (aS 0)) (C := R_HaulFlows) (T := T_HaulFlows) (N := 5) hx hb hG in_HaulFlows hown hK hP 0 rfl rfl 0 (by decide) (hG _ m_196) (fun _ h9 => h9) rfl d_HaulFlows_workOut_1 ?_
  obtain ⟨y4, hy4, hR⟩ := hw_bind hR
  have hM := c_Site_weeksSuffice l dC dI cI cJ cZ H.size aS VS0 VS1 VS2 NS0 NS1 NS2 LS0 LS1 LS2 LS3 LS4 LS5 LS6 LS7 LS8 IS0 aY VY0 LY0 LY1 LY2 IY0 (by first | assumption | omega) (by first | assumption | omega)
  rw [hy4] at hM
  refine hw_callVi (As := []) (rest := []) (wr := w_H cI cJ cZ aH VH0 aS aP aQ aT ++ w_P cI cJ cZ aP VP0 VP1 VP2 NP0 LP0 LP1 LP2 LP3 LP4 IP0 IP1 aS ++ w_P cI cJ cZ aQ VQ0 VQ1 VQ2 NQ0 LQ0 LQ1 LQ2 LQ3 LQ4 IQ0 IQ1 aS ++ w_T cI cJ cZ aT VT0 NT0 NT1 LT0 IT0 aS) ⟨hx, hb, hml, hown, hG⟩ hM (hw_cwV 0 hG m_543 m_544 m_545 m_2 m_546 rfl rfl (by decide +kernel) ⟨Nat.le_of_ble_eq_true rfl, Nat.le_of_ble_eq_true rfl⟩) hK hP hD hS hA [1, 2, 3, 4, 5, 6, 7, 8, 9, 10, 11, 12, 13, 14, 15, 16, 17, 18, 19] [0, 20, 21, 22, 23, 24, 25, 26, 27, 28, 29, 30, 31, 32, 33, 34, 35, 36, 37, 38, 39, 40, 41, 42] rfl rfl (by decide) (by decide) (by decide) (hw_recv hK hP 1 rfl rfl) rfl hl.1 rfl (Nat.le_of_ble_eq_true rfl) d_HaulFlows_workOut_4 ⟨Nat.le_of_ble_eq_true rfl, Nat.le_of_ble_eq_true rfl⟩ (fun H locs hP hD hS => ?_)
  have hP : va_P (dC, dI) vwCl (w_H cI cJ cZ aH VH0 aS aP aQ aT ++ w_S cI cJ cZ aS VS0 VS1 VS2 NS0 NS1 NS2 LS0 LS1 LS2 LS3 LS4 LS5 LS6 LS7 LS8 IS0 aY ++ w_Y cI cJ cZ aY VY0 LY0 LY1 LY2 IY0 ++ w_P cI cJ cZ aP VP0 VP1 VP2 NP0 LP0 LP1 LP2 LP3 LP4 IP0 IP1 aS ++ w_P cI cJ cZ aQ VQ0 VQ1 VQ2 NQ0 LQ0 LQ1 LQ2 LQ3 LQ4 IQ0 IQ1 aS ++ w_T cI cJ cZ aT VT0 NT0 NT1 LT0 IT0 aS) H := hP.sub [0, 24, 25, 26, 27, 28, 29, 30, 31, 32, 33, 34, 35, 36, 37, 38, 39, 40, 41, 42, 1, 2, 3, 4, 5, 6, 7, 8, 9, 10, 11, 12, 13, 14, 15, 16, 17, 18, 19, 20, 21, 22, 23] rfl
  have hD : va_D A (w_H cI cJ cZ aH VH0 aS aP aQ aT ++ w_S cI cJ cZ aS VS0 VS1 VS2 NS0 NS1 NS2 LS0 LS1 LS2 LS3 LS4 LS5 LS6 LS7 LS8 IS0 aY ++ w_Y cI cJ cZ aY VY0 LY0 LY1 LY2 IY0 ++ w_P cI cJ cZ aP VP0 VP1 VP2 NP0 LP0 LP1 LP2 LP3 LP4 IP0 IP1 aS ++ w_P cI cJ cZ aQ VQ0 VQ1 VQ2 NQ0 LQ0 LQ1 LQ2 LQ3 LQ4 IQ0 IQ1 aS ++ w_T cI cJ cZ aT VT0 NT0 NT1 LT0 IT0 aS) := hD.sub [0, 24, 25, 26, 27, 28, 29, 30, 31, 32, 33, 34, 35, 36, 37, 38, 39, 40, 41, 42, 1, 2, 3, 4, 5, 6, 7, 8, 9, 10, 11, 12, 13, 14, 15, 16, 17, 18, 19, 20, 21, 22, 23] (by decide) rfl
  refine lv_if_eq (tgt := 30) hx hb d_HaulFlows_workOut_7 (by decide) (fun c7 => ?_) (fun c7 => ?_)
  · replace hR := (if_pos c7).symm.trans hR
    refine lv_aload_n hx hb d_HaulFlows_workOut_30 rfl (lv_at hl 0 rfl) ?_
    refine va_get (D := (dC, dI)) (ci := 4) (v := .ref (aT 0)) (C := R_HaulFlows) (T := T_HaulFlows) (N := 5) hx hb hG in_HaulFlows hown hK hP 0 rfl rfl 3 (by decide) (hG _ m_199) (fun _ h9 => h9) rfl d_HaulFlows_workOut_31 ?_
    obtain ⟨y34, hy34, hR⟩ := hw_bind hR
    have hM := c_Shortage_find l dC dI cI cJ cZ H.size aT VT0 NT0 NT1 LT0 IT0 aS VS0 VS1 VS2 NS0 NS1 NS2 LS0 LS1 LS2 LS3 LS4 LS5 LS6 LS7 LS8 IS0 aY VY0 LY0 LY1 LY2 IY0 (by first | assumption | omega) (by first | assumption | omega) (by first | assumption | omega) (by first | assumption | omega) (by first | assumption | omega) (by first | assumption | omega) (by first | assumption | omega)
    rw [hy34] at hM
    refine hw_callVv (As := []) (rest := []) (wr := w_H cI cJ cZ aH VH0 aS aP aQ aT ++ w_P cI cJ cZ aP VP0 VP1 VP2 NP0 LP0 LP1 LP2 LP3 LP4 IP0 IP1 aS ++ w_P cI cJ cZ aQ VQ0 VQ1 VQ2 NQ0 LQ0 LQ1 LQ2 LQ3 LQ4 IQ0 IQ1 aS) ⟨hx, hb, hml, hown, hG⟩ hM (hw_cwV 0 hG m_583 m_584 m_585 m_6 m_586 rfl rfl (by decide +kernel) ⟨Nat.le_of_ble_eq_true rfl, Nat.le_of_ble_eq_true rfl⟩) hK hP hD hS hA [38, 39, 40, 41, 42, 1, 2, 3, 4, 5, 6, 7, 8, 9, 10, 11, 12, 13, 14, 15, 16, 17, 18, 19] [0, 20, 21, 22, 23, 24, 25, 26, 27, 28, 29, 30, 31, 32, 33, 34, 35, 36, 37] rfl rfl (by decide) (by decide) (by decide) (hw_recv hK hP 38 rfl rfl) rfl hl.1 rfl (Nat.le_of_ble_eq_true rfl) d_HaulFlows_workOut_34 ⟨Nat.le_of_ble_eq_true rfl, Nat.le_of_ble_eq_true rfl⟩ (fun H locs hP hD hS => ?_)
    have hP : va_P (dC, dI) vwCl (w_H cI cJ cZ aH VH0 aS aP aQ aT ++ w_S cI cJ cZ aS VS0 VS1 VS2 NS0 NS1 NS2 LS0 LS1 LS2 LS3 LS4 LS5 LS6 LS7 LS8 IS0 aY ++ w_Y cI cJ cZ aY VY0 LY0 LY1 LY2 IY0 ++ w_P cI cJ cZ aP VP0 VP1 VP2 NP0 LP0 LP1 LP2 LP3 LP4 IP0 IP1 aS ++ w_P cI cJ cZ aQ VQ0 VQ1 VQ2 NQ0 LQ0 LQ1 LQ2 LQ3 LQ4 IQ0 IQ1 aS ++ w_T cI cJ cZ aT y34.2.2.2.1 y34.2.2.2.2 y34.2.2.1 y34.1 y34.2.1 aS) H := hP.sub [0, 24, 25, 26, 27, 28, 29, 30, 31, 32, 33, 34, 35, 36, 37, 38, 39, 40, 41, 42, 1, 2, 3, 4, 5, 6, 7, 8, 9, 10, 11, 12, 13, 14, 15, 16, 17, 18, 19, 20, 21, 22, 23] rfl
    have hD : va_D A (w_H cI cJ cZ aH VH0 aS aP aQ aT ++ w_S cI cJ cZ aS VS0 VS1 VS2 NS0 NS1 NS2 LS0 LS1 LS2 LS3 LS4 LS5 LS6 LS7 LS8 IS0 aY ++ w_Y cI cJ cZ aY VY0 LY0 LY1 LY2 IY0 ++ w_P cI cJ cZ aP VP0 VP1 VP2 NP0 LP0 LP1 LP2 LP3 LP4 IP0 IP1 aS ++ w_P cI cJ cZ aQ VQ0 VQ1 VQ2 NQ0 LQ0 LQ1 LQ2 LQ3 LQ4 IQ0 IQ1 aS ++ w_T cI cJ cZ aT y34.2.2.2.1 y34.2.2.2.2 y34.2.2.1 y34.1 y34.2.1 aS) := hD.sub [0, 24, 25, 26, 27, 28, 29, 30, 31, 32, 33, 34, 35, 36, 37, 38, 39, 40, 41, 42, 1, 2, 3, 4, 5, 6, 7, 8, 9, 10, 11, 12, 13, 14, 15, 16, 17, 18, 19, 20, 21, 22, 23] (by decide) rfl
    refine lv_iconst (v := nI 2) hx hb d_HaulFlows_workOut_37 (by decide) ?_
    subst hR
    exact W.iret (v := nI 2) hx hb hr (fun t ht hW => ⟨⟨_, (), rfl, rfl, by rw [ht]; exact hP, va_K.moved hW.alike hK, hD⟩, hS.F ht⟩) hS.2.2 d_HaulFlows_workOut_38
  · replace hR := (if_neg c7).symm.trans hR
    refine lv_aload_n hx hb d_HaulFlows_workOut_10 rfl (lv_at hl 0 rfl) ?_
    refine va_get (D := (dC, dI)) (ci := 4) (v := .ref (aP 0)) (C := R_HaulFlows) (T := T_HaulFlows) (N := 5) hx hb hG in_HaulFlows hown hK hP 0 rfl rfl 1 (by decide) (hG _ m_197) (fun _ h9 => h9) rfl d_HaulFlows_workOut_11 ?_
    refine lv_iconst (v := (-1)) hx hb d_HaulFlows_workOut_14 (by decide) ?_
    obtain ⟨y15, hy15, hR⟩ := hw_bind hR
    have hM := c_Plan_makeCheapest l dC dI cI cJ cZ H.size aP VP0 VP1 VP2 NP0 LP0 LP1 LP2 LP3 LP4 IP0 IP1 aS VS0 VS1 VS2 NS0 NS1 NS2 LS0 LS1 LS2 LS3 LS4 LS5 LS6 LS7 LS8 IS0 aY VY0 LY0 LY1 LY2 IY0 (-1) (by first | assumption | omega) (by first | assumption | omega) (by first | assumption | omega) (by first | assumption | omega) (by first | assumption | omega) (by first | assumption | omega) (by first | assumption | omega)
    rw [hy15] at hM
    refine hw_callVi (As := [.int (-1)]) (rest := []) (wr := w_H cI cJ cZ aH VH0 aS aP aQ aT ++ w_P cI cJ cZ aQ VQ0 VQ1 VQ2 NQ0 LQ0 LQ1 LQ2 LQ3 LQ4 IQ0 IQ1 aS ++ w_T cI cJ cZ aT VT0 NT0 NT1 LT0 IT0 aS) ⟨hx, hb, hml, hown, hG⟩ hM (hw_cwV 1 hG m_372 m_373 m_374 m_5 m_375 rfl rfl (by decide +kernel) ⟨Nat.le_of_ble_eq_true rfl, Nat.le_of_ble_eq_true rfl⟩) hK hP hD hS hA [20, 21, 22, 23, 24, 25, 26, 27, 28, 1, 2, 3, 4, 5, 6, 7, 8, 9, 10, 11, 12, 13, 14, 15, 16, 17, 18, 19] [0, 29, 30, 31, 32, 33, 34, 35, 36, 37, 38, 39, 40, 41, 42] rfl rfl (by decide) (by decide) (by decide) (hw_recv hK hP 20 rfl rfl) rfl hl.1 rfl (Nat.le_of_ble_eq_true rfl) d_HaulFlows_workOut_15 ⟨Nat.le_of_ble_eq_true rfl, Nat.le_of_ble_eq_true rfl⟩ (fun H locs hP hD hS => ?_)
    have hP : va_P (dC, dI) vwCl (w_H cI cJ cZ aH VH0 aS aP aQ aT ++ w_S cI cJ cZ aS VS0 VS1 VS2 NS0 NS1 NS2 LS0 LS1 LS2 LS3 LS4 LS5 LS6 LS7 LS8 IS0 aY ++ w_Y cI cJ cZ aY VY0 LY0 LY1 LY2 IY0 ++ w_P cI cJ cZ aP y15.2.1 y15.2.2.1 VP2 NP0 y15.2.2.2.1 y15.2.2.2.2.1 y15.2.2.2.2.2.1 y15.2.2.2.2.2.2.1 y15.2.2.2.2.2.2.2.1 y15.2.2.2.2.2.2.2.2.1 y15.2.2.2.2.2.2.2.2.2 aS ++ w_P cI cJ cZ aQ VQ0 VQ1 VQ2 NQ0 LQ0 LQ1 LQ2 LQ3 LQ4 IQ0 IQ1 aS ++ w_T cI cJ cZ aT VT0 NT0 NT1 LT0 IT0 aS) H := hP.sub [0, 24, 25, 26, 27, 28, 29, 30, 31, 32, 33, 34, 35, 36, 37, 38, 39, 40, 41, 42, 15, 16, 17, 18, 19, 20, 21, 22, 23, 1, 2, 3, 4, 5, 6, 7, 8, 9, 10, 11, 12, 13, 14] rfl
    have hD : va_D A (w_H cI cJ cZ aH VH0 aS aP aQ aT ++ w_S cI cJ cZ aS VS0 VS1 VS2 NS0 NS1 NS2 LS0 LS1 LS2 LS3 LS4 LS5 LS6 LS7 LS8 IS0 aY ++ w_Y cI cJ cZ aY VY0 LY0 LY1 LY2 IY0 ++ w_P cI cJ cZ aP y15.2.1 y15.2.2.1 VP2 NP0 y15.2.2.2.1 y15.2.2.2.2.1 y15.2.2.2.2.2.1 y15.2.2.2.2.2.2.1 y15.2.2.2.2.2.2.2.1 y15.2.2.2.2.2.2.2.2.1 y15.2.2.2.2.2.2.2.2.2 aS ++ w_P cI cJ cZ aQ VQ0 VQ1 VQ2 NQ0 LQ0 LQ1 LQ2 LQ3 LQ4 IQ0 IQ1 aS ++ w_T cI cJ cZ aT VT0 NT0 NT1 LT0 IT0 aS) := hD.sub [0, 24, 25, 26, 27, 28, 29, 30, 31, 32, 33, 34, 35, 36, 37, 38, 39, 40, 41, 42, 15, 16, 17, 18, 19, 20, 21, 22, 23, 1, 2, 3, 4, 5, 6, 7, 8, 9, 10, 11, 12, 13, 14] (by decide) rfl
    have hmc15 := f_Plan_makeCheapest_vs LP0 LP1 LP2 LP3 LP4 IP0 IP1 VS0 VS1 VS2 NS0 NS1 NS2 LS0 LS1 LS2 LS3 LS4 LS5 LS6 LS7 IS0 VY0 LY0 LY1 LY2 IY0 (-1)
    rw [hy15] at hmc15
    have hmc15a := hmc15.1
    have hmc15b := hmc15.2
    refine lv_if_eq (tgt := 30) hx hb d_HaulFlows_workOut_18 (by decide) (fun c18 => ?_) (fun c18 => ?_)
    · replace hR := (if_pos c18).symm.trans hR
      refine lv_aload_n hx hb d_HaulFlows_workOut_30 rfl (lv_at hl 0 rfl) ?_
      refine va_get (D := (dC, dI)) (ci := 4) (v := .ref (aT 0)) (C := R_HaulFlows) (T := T_HaulFlows) (N := 5) hx hb hG in_HaulFlows hown hK hP 0 rfl rfl 3 (by decide) (hG _ m_199) (fun _ h9 => h9) rfl d_HaulFlows_workOut_31 ?_
      obtain ⟨y34, hy34, hR⟩ := hw_bind hR
      have hM := c_Shortage_find l dC dI cI cJ cZ H.size aT VT0 NT0 NT1 LT0 IT0 aS VS0 VS1 VS2 NS0 NS1 NS2 LS0 LS1 LS2 LS3 LS4 LS5 LS6 LS7 LS8 IS0 aY VY0 LY0 LY1 LY2 IY0 (by first | assumption | omega) (by first | assumption | omega) (by first | assumption | omega) (by first | assumption | omega) (by first | assumption | omega) (by first | assumption | omega) (by first | assumption | omega)
      rw [hy34] at hM
      refine hw_callVv (As := []) (rest := []) (wr := w_H cI cJ cZ aH VH0 aS aP aQ aT ++ w_P cI cJ cZ aP y15.2.1 y15.2.2.1 VP2 NP0 y15.2.2.2.1 y15.2.2.2.2.1 y15.2.2.2.2.2.1 y15.2.2.2.2.2.2.1 y15.2.2.2.2.2.2.2.1 y15.2.2.2.2.2.2.2.2.1 y15.2.2.2.2.2.2.2.2.2 aS ++ w_P cI cJ cZ aQ VQ0 VQ1 VQ2 NQ0 LQ0 LQ1 LQ2 LQ3 LQ4 IQ0 IQ1 aS) ⟨hx, hb, hml, hown, hG⟩ hM (hw_cwV 0 hG m_583 m_584 m_585 m_6 m_586 rfl rfl (by decide +kernel) ⟨Nat.le_of_ble_eq_true rfl, Nat.le_of_ble_eq_true rfl⟩) hK hP hD hS hA [38, 39, 40, 41, 42, 1, 2, 3, 4, 5, 6, 7, 8, 9, 10, 11, 12, 13, 14, 15, 16, 17, 18, 19] [0, 20, 21, 22, 23, 24, 25, 26, 27, 28, 29, 30, 31, 32, 33, 34, 35, 36, 37] rfl rfl (by decide) (by decide) (by decide) (hw_recv hK hP 38 rfl rfl) rfl hl.1 rfl (Nat.le_of_ble_eq_true rfl) d_HaulFlows_workOut_34 ⟨Nat.le_of_ble_eq_true rfl, Nat.le_of_ble_eq_true rfl⟩ (fun H locs hP hD hS => ?_)
      have hP : va_P (dC, dI) vwCl (w_H cI cJ cZ aH VH0 aS aP aQ aT ++ w_S cI cJ cZ aS VS0 VS1 VS2 NS0 NS1 NS2 LS0 LS1 LS2 LS3 LS4 LS5 LS6 LS7 LS8 IS0 aY ++ w_Y cI cJ cZ aY VY0 LY0 LY1 LY2 IY0 ++ w_P cI cJ cZ aP y15.2.1 y15.2.2.1 VP2 NP0 y15.2.2.2.1 y15.2.2.2.2.1 y15.2.2.2.2.2.1 y15.2.2.2.2.2.2.1 y15.2.2.2.2.2.2.2.1 y15.2.2.2.2.2.2.2.2.1 y15.2.2.2.2.2.2.2.2.2 aS ++ w_P cI cJ cZ aQ VQ0 VQ1 VQ2 NQ0 LQ0 LQ1 LQ2 LQ3 LQ4 IQ0 IQ1 aS ++ w_T cI cJ cZ aT y34.2.2.2.1 y34.2.2.2.2 y34.2.2.1 y34.1 y34.2.1 aS) H := hP.sub [0, 24, 25, 26, 27, 28, 29, 30, 31, 32, 33, 34, 35, 36, 37, 38, 39, 40, 41, 42, 1, 2, 3, 4, 5, 6, 7, 8, 9, 10, 11, 12, 13, 14, 15, 16, 17, 18, 19, 20, 21, 22, 23] rfl
      have hD : va_D A (w_H cI cJ cZ aH VH0 aS aP aQ aT ++ w_S cI cJ cZ aS VS0 VS1 VS2 NS0 NS1 NS2 LS0 LS1 LS2 LS3 LS4 LS5 LS6 LS7 LS8 IS0 aY ++ w_Y cI cJ cZ aY VY0 LY0 LY1 LY2 IY0 ++ w_P cI cJ cZ aP y15.2.1 y15.2.2.1 VP2 NP0 y15.2.2.2.1 y15.2.2.2.2.1 y15.2.2.2.2.2.1 y15.2.2.2.2.2.2.1 y15.2.2.2.2.2.2.2.1 y15.2.2.2.2.2.2.2.2.1 y15.2.2.2.2.2.2.2.2.2 aS ++ w_P cI cJ cZ aQ VQ0 VQ1 VQ2 NQ0 LQ0 LQ1 LQ2 LQ3 LQ4 IQ0 IQ1 aS ++ w_T cI cJ cZ aT y34.2.2.2.1 y34.2.2.2.2 y34.2.2.1 y34.1 y34.2.1 aS) := hD.sub [0, 24, 25, 26, 27, 28, 29, 30, 31, 32, 33, 34, 35, 36, 37, 38, 39, 40, 41, 42, 1, 2, 3, 4, 5, 6, 7, 8, 9, 10, 11, 12, 13, 14, 15, 16, 17, 18, 19, 20, 21, 22, 23] (by decide) rfl
      refine lv_iconst (v := nI 2) hx hb d_HaulFlows_workOut_37 (by decide) ?_
      subst hR
      exact W.iret (v := nI 2) hx hb hr (fun t ht hW => ⟨⟨_, (), rfl, rfl, by rw [ht]; exact hP, va_K.moved hW.alike hK, hD⟩, hS.F ht⟩) hS.2.2 d_HaulFlows_workOut_38
    · replace hR := (if_neg c18).symm.trans hR
      refine lv_aload_n hx hb d_HaulFlows_workOut_21 rfl (lv_at hl 0 rfl) ?_
      refine va_get (D := (dC, dI)) (ci := 4) (v := .ref (aP 0)) (C := R_HaulFlows) (T := T_HaulFlows) (N := 5) hx hb hG in_HaulFlows hown hK hP 0 rfl rfl 1 (by decide) (hG _ m_197) (fun _ h9 => h9) rfl d_HaulFlows_workOut_22 ?_
      obtain ⟨y25, hy25, hR⟩ := hw_bind hR
      have hM := c_Plan_makeFirst l dC dI cI cJ cZ H.size aP y15.2.1 y15.2.2.1 VP2 NP0 y15.2.2.2.1 y15.2.2.2.2.1 y15.2.2.2.2.2.1 y15.2.2.2.2.2.2.1 y15.2.2.2.2.2.2.2.1 y15.2.2.2.2.2.2.2.2.1 y15.2.2.2.2.2.2.2.2.2 aS VS0 VS1 VS2 NS0 NS1 NS2 LS0 LS1 LS2 LS3 LS4 LS5 LS6 LS7 LS8 IS0 aY VY0 LY0 LY1 LY2 IY0 (show y15.2.1 ≤ 12 by omega) (show y15.2.2.1 ≤ 8 by omega) (by first | assumption | omega)
      rw [hy25] at hM
      refine hw_callVv (As := []) (rest := []) (wr := w_H cI cJ cZ aH VH0 aS aP aQ aT ++ w_P cI cJ cZ aQ VQ0 VQ1 VQ2 NQ0 LQ0 LQ1 LQ2 LQ3 LQ4 IQ0 IQ1 aS ++ w_T cI cJ cZ aT VT0 NT0 NT1 LT0 IT0 aS) ⟨hx, hb, hml, hown, hG⟩ hM (hw_cwV 0 hG m_548 m_549 m_550 m_5 m_551 rfl rfl (by decide +kernel) ⟨Nat.le_of_ble_eq_true rfl, Nat.le_of_ble_eq_true rfl⟩) hK hP hD hS hA [20, 21, 22, 23, 24, 25, 26, 27, 28, 1, 2, 3, 4, 5, 6, 7, 8, 9, 10, 11, 12, 13, 14, 15, 16, 17, 18, 19] [0, 29, 30, 31, 32, 33, 34, 35, 36, 37, 38, 39, 40, 41, 42] rfl rfl (by decide) (by decide) (by decide) (hw_recv hK hP 20 rfl rfl) rfl hl.1 rfl (Nat.le_of_ble_eq_true rfl) d_HaulFlows_workOut_25 ⟨Nat.le_of_ble_eq_true rfl, Nat.le_of_ble_eq_true rfl⟩ (fun H locs hP hD hS => ?_)
      have hP : va_P (dC, dI) vwCl (w_H cI cJ cZ aH VH0 aS aP aQ aT ++ w_S cI cJ cZ aS VS0 VS1 VS2 NS0 NS1 NS2 LS0 LS1 LS2 LS3 LS4 LS5 LS6 LS7 LS8 IS0 aY ++ w_Y cI cJ cZ aY VY0 LY0 LY1 LY2 IY0 ++ w_P cI cJ cZ aP y15.2.1 y15.2.2.1 y25.2.1 y25.2.2.1 y15.2.2.2.1 y25.1 y15.2.2.2.2.2.1 y15.2.2.2.2.2.2.1 y15.2.2.2.2.2.2.2.1 y15.2.2.2.2.2.2.2.2.1 y25.2.2.2 aS ++ w_P cI cJ cZ aQ VQ0 VQ1 VQ2 NQ0 LQ0 LQ1 LQ2 LQ3 LQ4 IQ0 IQ1 aS ++ w_T cI cJ cZ aT VT0 NT0 NT1 LT0 IT0 aS) H := hP.sub [0, 24, 25, 26, 27, 28, 29, 30, 31, 32, 33, 34, 35, 36, 37, 38, 39, 40, 41, 42, 15, 16, 17, 18, 19, 20, 21, 22, 23, 1, 2, 3, 4, 5, 6, 7, 8, 9, 10, 11, 12, 13, 14] rfl
      have hD : va_D A (w_H cI cJ cZ aH VH0 aS aP aQ aT ++ w_S cI cJ cZ aS VS0 VS1 VS2 NS0 NS1 NS2 LS0 LS1 LS2 LS3 LS4 LS5 LS6 LS7 LS8 IS0 aY ++ w_Y cI cJ cZ aY VY0 LY0 LY1 LY2 IY0 ++ w_P cI cJ cZ aP y15.2.1 y15.2.2.1 y25.2.1 y25.2.2.1 y15.2.2.2.1 y25.1 y15.2.2.2.2.2.1 y15.2.2.2.2.2.2.1 y15.2.2.2.2.2.2.2.1 y15.2.2.2.2.2.2.2.2.1 y25.2.2.2 aS ++ w_P cI cJ cZ aQ VQ0 VQ1 VQ2 NQ0 LQ0 LQ1 LQ2 LQ3 LQ4 IQ0 IQ1 aS ++ w_T cI cJ cZ aT VT0 NT0 NT1 LT0 IT0 aS) := hD.sub [0, 24, 25, 26, 27, 28, 29, 30, 31, 32, 33, 34, 35, 36, 37, 38, 39, 40, 41, 42, 15, 16, 17, 18, 19, 20, 21, 22, 23, 1, 2, 3, 4, 5, 6, 7, 8, 9, 10, 11, 12, 13, 14] (by decide) rfl
      refine lv_iconst (v := nI 1) hx hb d_HaulFlows_workOut_28 (by decide) ?_
      subst hR
      exact W.iret (v := nI 1) hx hb hr (fun t ht hW => ⟨⟨_, (), rfl, rfl, by rw [ht]; exact hP, va_K.moved hW.alike hK, hD⟩, hS.F ht⟩) hS.2.2 d_HaulFlows_workOut_29
def f_HaulFlows_moved (VH0 : Nat) (VS0 : Nat) (VS1 : Nat) (VS2 : Nat) (LP0 : Nat → Int64) (LP1 : Nat → Int64) (x1 : Int32) (x2 : Int32) (x3 : Int32) : Int64 :=
  if VH0 = 1 then (hh_bind (f_Site_sources VS0 VS1) (fun y13 => hh_bind (f_HaulFlows_isBelow x1 (nI y13)) (fun y16 => if y16 = 0 then ((-1)) else (hh_bind (f_HaulFlows_isBelow x2 (nI VS2)) (fun y30 => if y30 = 0 then ((-1)) else (hh_bind (f_HaulFlows_isBelow x3 (nI 2)) (fun y38 => if y38 = 0 then ((-1)) else (if x3 = 0 then (hh_bind (f_Plan_amount LP1 x1.toNatClampNeg x2.toNatClampNeg) (fun y58 => (y58))) else (hh_bind (f_Plan_price LP0 LP1 x1.toNatClampNeg x2.toNatClampNeg) (fun y70 => (y70))))))))))) else ((-1))
set_option maxHeartbeats 4000000 in
set_option maxRecDepth 100000 in
theorem c_HaulFlows_moved (l : Launch) (dC : Nat → ClassId) (dI : Nat → Nat → Nat) (cI cJ cZ : ClassId) (sz : Nat) (aH : Nat → Nat) (VH0 : Nat) (aS : Nat → Nat) (VS0 : Nat) (VS1 : Nat) (VS2 : Nat) (NS0 : Nat → Nat) (NS1 : Nat → Nat) (NS2 : Nat → Nat) (LS0 : Nat → Int64) (LS1 : Nat → Int64) (LS2 : Nat → Int64) (LS3 : Nat → Int64) (LS4 : Nat → Int64) (LS5 : Nat → Int64) (LS6 : Nat → Int64) (LS7 : Nat → Int64) (LS8 : Nat → Int64) (IS0 : Nat → Int32) (aY : Nat → Nat) (VY0 : Nat) (LY0 : Nat → Int64) (LY1 : Nat → Int64) (LY2 : Nat → Int64) (IY0 : Nat → Int32) (aP : Nat → Nat) (VP0 : Nat) (VP1 : Nat) (VP2 : Nat) (NP0 : Nat → Nat) (LP0 : Nat → Int64) (LP1 : Nat → Int64) (LP2 : Nat → Int64) (LP3 : Nat → Int64) (LP4 : Nat → Int64) (IP0 : Nat → Int32) (IP1 : Nat → Int32) (aQ : Nat → Nat) (VQ0 : Nat) (VQ1 : Nat) (VQ2 : Nat) (NQ0 : Nat → Nat) (LQ0 : Nat → Int64) (LQ1 : Nat → Int64) (LQ2 : Nat → Int64) (LQ3 : Nat → Int64) (LQ4 : Nat → Int64) (IQ0 : Nat → Int32) (IQ1 : Nat → Int32) (aT : Nat → Nat) (VT0 : Nat) (NT0 : Nat → Nat) (NT1 : Nat → Nat) (LT0 : Nat → Int64) (IT0 : Nat → Int32) (x1 : Int32) (x2 : Int32) (x3 : Int32) (hc8 : VS0 ≤ 8) (hp4 : VS1 ≤ 4) (hf8 : VS2 ≤ 8) (hy6 : VY0 ≤ 6) (hk4 : ∀ i, NS0 i < 4) (hcw : ∀ i, NS1 i < 12) (hfw : ∀ i, NS2 i < 12) (hq : ∀ i, NP0 i < 21) (htq : ∀ i, NT1 i < 34) (hst : VH0 ≤ 2) (hpl : VH0 = 1 → VP0 = VS0 + VS1 ∧ VP1 = VS2) (hsf : VT0 ≤ 8) : hh_Cl l y_HaulFlows_moved u_HaulFlows_moved ({ frames := 1, cells := 0, slots := 0, locals := 23 }) (dC, dI) vwCl [(cI, .int), (cJ, .long), (cZ, .boolean)] (w_H cI cJ cZ aH VH0 aS aP aQ aT ++ w_S cI cJ cZ aS VS0 VS1 VS2 NS0 NS1 NS2 LS0 LS1 LS2 LS3 LS4 LS5 LS6 LS7 LS8 IS0 aY ++ w_Y cI cJ cZ aY VY0 LY0 LY1 LY2 IY0 ++ w_P cI cJ cZ aP VP0 VP1 VP2 NP0 LP0 LP1 LP2 LP3 LP4 IP0 IP1 aS ++ w_P cI cJ cZ aQ VQ0 VQ1 VQ2 NQ0 LQ0 LQ1 LQ2 LQ3 LQ4 IQ0 IQ1 aS ++ w_T cI cJ cZ aT VT0 NT0 NT1 LT0 IT0 aS) sz [.ref (aH 0), .int x1, .int x2, .int x3] (f_HaulFlows_moved VH0 VS0 VS1 VS2 LP0 LP1 x1 x2 x3) (w_H cI cJ cZ aH VH0 aS aP aQ aT ++ w_S cI cJ cZ aS VS0 VS1 VS2 NS0 NS1 NS2 LS0 LS1 LS2 LS3 LS4 LS5 LS6 LS7 LS8 IS0 aY ++ w_Y cI cJ cZ aY VY0 LY0 LY1 LY2 IY0 ++ w_P cI cJ cZ aP VP0 VP1 VP2 NP0 LP0 LP1 LP2 LP3 LP4 IP0 IP1 aS ++ w_P cI cJ cZ aQ VQ0 VQ1 VQ2 NQ0 LQ0 LQ1 LQ2 LQ3 LQ4 IQ0 IQ1 aS ++ w_T cI cJ cZ aT VT0 NT0 NT1 LT0 IT0 aS) 0 0 := by
  unfold hh_Cl
  refine Met.ofW (cc := b_HaulFlows_moved) (maxL := 4) (ret := (some .long)) (by decide) rfl ?_
  intro p e s m args below meth c s₁ B hml hv
  obtain ⟨rfl, hsz, hP, hK, hD0⟩ := hv
  have hx := B.exec
  have hb := B.bytes
  have hr := B.returns
  have hts := atoms_spec (ws := u_HaulFlows_moved) B.pre
  have hG : ∀ w ∈ wG, w.before ([.ref (aH 0), .int x1, .int x2, .int x3]).toArray s = true := fun w h => hts w (List.mem_cons_of_mem _ h)
  have hown : s.vm.findClass R_HaulFlows = some m.cls := findClass_of_methodNamed B.named
  have hlocks := B.notSynchronized
  subst hsz
  have hD := hD0.self (sz := s.heap.size)
  generalize hAe : va_A (w_H cI cJ cZ aH VH0 aS aP aQ aT ++ w_S cI cJ cZ aS VS0 VS1 VS2 NS0 NS1 NS2 LS0 LS1 LS2 LS3 LS4 LS5 LS6 LS7 LS8 IS0 aY ++ w_Y cI cJ cZ aY VY0 LY0 LY1 LY2 IY0 ++ w_P cI cJ cZ aP VP0 VP1 VP2 NP0 LP0 LP1 LP2 LP3 LP4 IP0 IP1 aS ++ w_P cI cJ cZ aQ VQ0 VQ1 VQ2 NQ0 LQ0 LQ1 LQ2 LQ3 LQ4 IQ0 IQ1 aS ++ w_T cI cJ cZ aT VT0 NT0 NT1 LT0 IT0 aS) s.heap.size = A at hD ⊢
  have hA : ∀ q : Nat, s.heap.size ≤ q → A q := fun q h => by rw [← hAe]; exact Or.inr h
  have hS : va_S A s.heap s.heap [] := va_S.rf
  have hl := lv_entry ([.ref (aH 0), .int x1, .int x2, .int x3]) (n := 4) (Nat.le_of_ble_eq_true rfl)
  rw [lg_entry_eq]
  generalize (lg_sl ([.ref (aH 0), .int x1, .int x2, .int x3]) ++ List.replicate (4 - (lg_sl ([.ref (aH 0), .int x1, .int x2, .int x3])).length) Slot.unset).toArray = ls at hl ⊢
  have hl : lv_has ls 4 [(0, .ref (aH 0)), (1, .int x1), (2, .int x2), (3, .int x3)] := hl
  generalize hR : f_HaulFlows_moved VH0 VS0 VS1 VS2 LP0 LP1 x1 x2 x3 = r0
  obtain ⟨H, locs, hHe, hle⟩ : ∃ (H : Heap) (locs : List Loc), s.heap = H ∧ [] = locs := ⟨_, _, rfl, rfl⟩
  have hP : va_P (dC, dI) vwCl (w_H cI cJ cZ aH VH0 aS aP aQ aT ++ w_S cI cJ cZ aS VS0 VS1 VS2 NS0 NS1 NS2 LS0 LS1 LS2 LS3 LS4 LS5 LS6 LS7 LS8 IS0 aY ++ w_Y cI cJ cZ aY VY0 LY0 LY1 LY2 IY0 ++ w_P cI cJ cZ aP VP0 VP1 VP2 NP0 LP0 LP1 LP2 LP3 LP4 IP0 IP1 aS ++ w_P cI cJ cZ aQ VQ0 VQ1 VQ2 NQ0 LQ0 LQ1 LQ2 LQ3 LQ4 IQ0 IQ1 aS ++ w_T cI cJ cZ aT VT0 NT0 NT1 LT0 IT0 aS) H := by rw [← hHe]; exact hP
  have hS : va_S A s.heap H locs := by rw [← hHe, ← hle]; exact hS
  refine hw_start hHe hle ?_
  unfold f_HaulFlows_moved at hR
  refine lv_aload_n hx hb d_HaulFlows_moved_0 rfl (lv_at hl 0 rfl) ?_
  refine va_get (D := (dC, dI)) (ci := 4) (v := .int (nI VH0)) (C := R_HaulFlows) (T := T_HaulFlows) (N := 5) hx hb hG in_HaulFlows hown hK hP 0 rfl rfl 4 (by decide) (hG _ m_200) (fun _ h9 => h9) rfl d_HaulFlows_moved_1 ?_
  refine lv_iconst (v := nI 1) hx hb d_HaulFlows_moved_4 (by decide) ?_
  refine hw_icmp_ne (tgt := 44) hx hb d_HaulFlows_moved_5 (by decide) (by omega) (by omega) (fun c5 => ?_) (fun c5 => ?_)
  · replace hR := (if_neg c5).symm.trans hR
    refine lv_ldc2 (v := (-1)) hx hb hown (hG _ m_295) d_HaulFlows_moved_44 ?_
    subst hR
    exact W.lret (v := (-1)) hx hb hr (fun t ht hW => ⟨⟨_, (), rfl, rfl, by rw [ht]; exact hP, va_K.moved hW.alike hK, hD⟩, hS.F ht⟩) hS.2.2 d_HaulFlows_moved_47
  · replace hR := (if_pos c5).symm.trans hR
    refine lv_iload_n hx hb d_HaulFlows_moved_8 rfl (lv_at hl 1 rfl) ?_
    refine lv_aload_n hx hb d_HaulFlows_moved_9 rfl (lv_at hl 0 rfl) ?_
    refine va_get (D := (dC, dI)) (ci := 4) (v := .ref (aS 0)) (C := R_HaulFlows) (T := T_HaulFlows) (N := 5) hx hb hG in_HaulFlows hown hK hP 0 rfl rfl 0 (by decide) (hG _ m_196) (fun _ h9 => h9) rfl d_HaulFlows_moved_10 ?_
    obtain ⟨y13, hy13, hR⟩ := hw_bind hR
    have hM := c_Site_sources l dC dI cI cJ cZ H.size aS VS0 VS1 VS2 NS0 NS1 NS2 LS0 LS1 LS2 LS3 LS4 LS5 LS6 LS7 LS8 IS0 aY VY0 LY0 LY1 LY2 IY0
    rw [hy13] at hM
    refine hw_callVi (As := []) (rest := [.int x1]) (wr := w_H cI cJ cZ aH VH0 aS aP aQ aT ++ w_P cI cJ cZ aP VP0 VP1 VP2 NP0 LP0 LP1 LP2 LP3 LP4 IP0 IP1 aS ++ w_P cI cJ cZ aQ VQ0 VQ1 VQ2 NQ0 LQ0 LQ1 LQ2 LQ3 LQ4 IQ0 IQ1 aS ++ w_T cI cJ cZ aT VT0 NT0 NT1 LT0 IT0 aS) ⟨hx, hb, hml, hown, hG⟩ hM (hw_cwV 0 hG m_291 m_292 m_293 m_2 m_294 rfl rfl (by decide +kernel) ⟨Nat.le_of_ble_eq_true rfl, Nat.le_of_ble_eq_true rfl⟩) hK hP hD hS hA [1, 2, 3, 4, 5, 6, 7, 8, 9, 10, 11, 12, 13, 14, 15, 16, 17, 18, 19] [0, 20, 21, 22, 23, 24, 25, 26, 27, 28, 29, 30, 31, 32, 33, 34, 35, 36, 37, 38, 39, 40, 41, 42] rfl rfl (by decide) (by decide) (by decide) (hw_recv hK hP 1 rfl rfl) rfl hl.1 rfl (Nat.le_of_ble_eq_true rfl) d_HaulFlows_moved_13 ⟨Nat.le_of_ble_eq_true rfl, Nat.le_of_ble_eq_true rfl⟩ (fun H locs hP hD hS => ?_)
    have hP : va_P (dC, dI) vwCl (w_H cI cJ cZ aH VH0 aS aP aQ aT ++ w_S cI cJ cZ aS VS0 VS1 VS2 NS0 NS1 NS2 LS0 LS1 LS2 LS3 LS4 LS5 LS6 LS7 LS8 IS0 aY ++ w_Y cI cJ cZ aY VY0 LY0 LY1 LY2 IY0 ++ w_P cI cJ cZ aP VP0 VP1 VP2 NP0 LP0 LP1 LP2 LP3 LP4 IP0 IP1 aS ++ w_P cI cJ cZ aQ VQ0 VQ1 VQ2 NQ0 LQ0 LQ1 LQ2 LQ3 LQ4 IQ0 IQ1 aS ++ w_T cI cJ cZ aT VT0 NT0 NT1 LT0 IT0 aS) H := hP.sub [0, 24, 25, 26, 27, 28, 29, 30, 31, 32, 33, 34, 35, 36, 37, 38, 39, 40, 41, 42, 1, 2, 3, 4, 5, 6, 7, 8, 9, 10, 11, 12, 13, 14, 15, 16, 17, 18, 19, 20, 21, 22, 23] rfl
    have hD : va_D A (w_H cI cJ cZ aH VH0 aS aP aQ aT ++ w_S cI cJ cZ aS VS0 VS1 VS2 NS0 NS1 NS2 LS0 LS1 LS2 LS3 LS4 LS5 LS6 LS7 LS8 IS0 aY ++ w_Y cI cJ cZ aY VY0 LY0 LY1 LY2 IY0 ++ w_P cI cJ cZ aP VP0 VP1 VP2 NP0 LP0 LP1 LP2 LP3 LP4 IP0 IP1 aS ++ w_P cI cJ cZ aQ VQ0 VQ1 VQ2 NQ0 LQ0 LQ1 LQ2 LQ3 LQ4 IQ0 IQ1 aS ++ w_T cI cJ cZ aT VT0 NT0 NT1 LT0 IT0 aS) := hD.sub [0, 24, 25, 26, 27, 28, 29, 30, 31, 32, 33, 34, 35, 36, 37, 38, 39, 40, 41, 42, 1, 2, 3, 4, 5, 6, 7, 8, 9, 10, 11, 12, 13, 14, 15, 16, 17, 18, 19, 20, 21, 22, 23] (by decide) rfl
    have hs13 : y13 = VS0 + VS1 := by rw [← hy13]; rfl
    obtain ⟨y16, hy16, hR⟩ := hw_bind hR
    have hM := c_HaulFlows_isBelow l dC dI cI cJ cZ H.size x1 (nI y13)
    rw [hy16] at hM
    refine hw_callSi (As := [.int x1, .int (nI y13)]) (rest := []) (wr := w_H cI cJ cZ aH VH0 aS aP aQ aT ++ w_S cI cJ cZ aS VS0 VS1 VS2 NS0 NS1 NS2 LS0 LS1 LS2 LS3 LS4 LS5 LS6 LS7 LS8 IS0 aY ++ w_Y cI cJ cZ aY VY0 LY0 LY1 LY2 IY0 ++ w_P cI cJ cZ aP VP0 VP1 VP2 NP0 LP0 LP1 LP2 LP3 LP4 IP0 IP1 aS ++ w_P cI cJ cZ aQ VQ0 VQ1 VQ2 NQ0 LQ0 LQ1 LQ2 LQ3 LQ4 IQ0 IQ1 aS ++ w_T cI cJ cZ aT VT0 NT0 NT1 LT0 IT0 aS) ⟨hx, hb, hml, hown, hG⟩ hM (hw_cwS 2 hG m_220 m_221 m_1 m_222 rfl rfl (by decide +kernel) ⟨Nat.le_of_ble_eq_true rfl, Nat.le_of_ble_eq_true rfl⟩) hK hP hD hS hA [] [0, 1, 2, 3, 4, 5, 6, 7, 8, 9, 10, 11, 12, 13, 14, 15, 16, 17, 18, 19, 20, 21, 22, 23, 24, 25, 26, 27, 28, 29, 30, 31, 32, 33, 34, 35, 36, 37, 38, 39, 40, 41, 42] rfl rfl (by decide) (by decide) (by decide) rfl hl.1 rfl (Nat.le_of_ble_eq_true rfl) d_HaulFlows_moved_16 ⟨Nat.le_of_ble_eq_true rfl, Nat.le_of_ble_eq_true rfl⟩ (fun H locs hP hD hS => ?_)
    have hP : va_P (dC, dI) vwCl (w_H cI cJ cZ aH VH0 aS aP aQ aT ++ w_S cI cJ cZ aS VS0 VS1 VS2 NS0 NS1 NS2 LS0 LS1 LS2 LS3 LS4 LS5 LS6 LS7 LS8 IS0 aY ++ w_Y cI cJ cZ aY VY0 LY0 LY1 LY2 IY0 ++ w_P cI cJ cZ aP VP0 VP1 VP2 NP0 LP0 LP1 LP2 LP3 LP4 IP0 IP1 aS ++ w_P cI cJ cZ aQ VQ0 VQ1 VQ2 NQ0 LQ0 LQ1 LQ2 LQ3 LQ4 IQ0 IQ1 aS ++ w_T cI cJ cZ aT VT0 NT0 NT1 LT0 IT0 aS) H := hP
    have hD : va_D A (w_H cI cJ cZ aH VH0 aS aP aQ aT ++ w_S cI cJ cZ aS VS0 VS1 VS2 NS0 NS1 NS2 LS0 LS1 LS2 LS3 LS4 LS5 LS6 LS7 LS8 IS0 aY ++ w_Y cI cJ cZ aY VY0 LY0 LY1 LY2 IY0 ++ w_P cI cJ cZ aP VP0 VP1 VP2 NP0 LP0 LP1 LP2 LP3 LP4 IP0 IP1 aS ++ w_P cI cJ cZ aQ VQ0 VQ1 VQ2 NQ0 LQ0 LQ1 LQ2 LQ3 LQ4 IQ0 IQ1 aS ++ w_T cI cJ cZ aT VT0 NT0 NT1 LT0 IT0 aS) := hD
    have hbl16 := hp_below (x := x1) (n := y13) (by omega)
    rw [hy16] at hbl16
    refine lv_if_eq (tgt := 44) hx hb d_HaulFlows_moved_19 (by decide) (fun c19 => ?_) (fun c19 => ?_)
    · replace hR := (if_pos c19).symm.trans hR
      refine lv_ldc2 (v := (-1)) hx hb hown (hG _ m_295) d_HaulFlows_moved_44 ?_
      subst hR
      exact W.lret (v := (-1)) hx hb hr (fun t ht hW => ⟨⟨_, (), rfl, rfl, by rw [ht]; exact hP, va_K.moved hW.alike hK, hD⟩, hS.F ht⟩) hS.2.2 d_HaulFlows_moved_47
    · replace hR := (if_neg c19).symm.trans hR
      refine lv_iload_n hx hb d_HaulFlows_moved_22 rfl (lv_at hl 2 rfl) ?_
      refine lv_aload_n hx hb d_HaulFlows_moved_23 rfl (lv_at hl 0 rfl) ?_
      refine va_get (D := (dC, dI)) (ci := 4) (v := .ref (aS 0)) (C := R_HaulFlows) (T := T_HaulFlows) (N := 5) hx hb hG in_HaulFlows hown hK hP 0 rfl rfl 0 (by decide) (hG _ m_196) (fun _ h9 => h9) rfl d_HaulFlows_moved_24 ?_
      refine va_get (D := (dC, dI)) (ci := 2) (v := .int (nI VS2)) (C := R_Site) (T := T_Site) (N := 17) hx hb hG in_Site hown hK hP 1 rfl rfl 2 (by decide) (hG _ m_62) (fun _ h9 => h9) rfl d_HaulFlows_moved_27 ?_
      obtain ⟨y30, hy30, hR⟩ := hw_bind hR
      have hM := c_HaulFlows_isBelow l dC dI cI cJ cZ H.size x2 (nI VS2)
      rw [hy30] at hM
      refine hw_callSi (As := [.int x2, .int (nI VS2)]) (rest := []) (wr := w_H cI cJ cZ aH VH0 aS aP aQ aT ++ w_S cI cJ cZ aS VS0 VS1 VS2 NS0 NS1 NS2 LS0 LS1 LS2 LS3 LS4 LS5 LS6 LS7 LS8 IS0 aY ++ w_Y cI cJ cZ aY VY0 LY0 LY1 LY2 IY0 ++ w_P cI cJ cZ aP VP0 VP1 VP2 NP0 LP0 LP1 LP2 LP3 LP4 IP0 IP1 aS ++ w_P cI cJ cZ aQ VQ0 VQ1 VQ2 NQ0 LQ0 LQ1 LQ2 LQ3 LQ4 IQ0 IQ1 aS ++ w_T cI cJ cZ aT VT0 NT0 NT1 LT0 IT0 aS) ⟨hx, hb, hml, hown, hG⟩ hM (hw_cwS 2 hG m_220 m_221 m_1 m_222 rfl rfl (by decide +kernel) ⟨Nat.le_of_ble_eq_true rfl, Nat.le_of_ble_eq_true rfl⟩) hK hP hD hS hA [] [0, 1, 2, 3, 4, 5, 6, 7, 8, 9, 10, 11, 12, 13, 14, 15, 16, 17, 18, 19, 20, 21, 22, 23, 24, 25, 26, 27, 28, 29, 30, 31, 32, 33, 34, 35, 36, 37, 38, 39, 40, 41, 42] rfl rfl (by decide) (by decide) (by decide) rfl hl.1 rfl (Nat.le_of_ble_eq_true rfl) d_HaulFlows_moved_30 ⟨Nat.le_of_ble_eq_true rfl, Nat.le_of_ble_eq_true rfl⟩ (fun H locs hP hD hS => ?_)
      have hP : va_P (dC, dI) vwCl (w_H cI cJ cZ aH VH0 aS aP aQ aT ++ w_S cI cJ cZ aS VS0 VS1 VS2 NS0 NS1 NS2 LS0 LS1 LS2 LS3 LS4 LS5 LS6 LS7 LS8 IS0 aY ++ w_Y cI cJ cZ aY VY0 LY0 LY1 LY2 IY0 ++ w_P cI cJ cZ aP VP0 VP1 VP2 NP0 LP0 LP1 LP2 LP3 LP4 IP0 IP1 aS ++ w_P cI cJ cZ aQ VQ0 VQ1 VQ2 NQ0 LQ0 LQ1 LQ2 LQ3 LQ4 IQ0 IQ1 aS ++ w_T cI cJ cZ aT VT0 NT0 NT1 LT0 IT0 aS) H := hP
      have hD : va_D A (w_H cI cJ cZ aH VH0 aS aP aQ aT ++ w_S cI cJ cZ aS VS0 VS1 VS2 NS0 NS1 NS2 LS0 LS1 LS2 LS3 LS4 LS5 LS6 LS7 LS8 IS0 aY ++ w_Y cI cJ cZ aY VY0 LY0 LY1 LY2 IY0 ++ w_P cI cJ cZ aP VP0 VP1 VP2 NP0 LP0 LP1 LP2 LP3 LP4 IP0 IP1 aS ++ w_P cI cJ cZ aQ VQ0 VQ1 VQ2 NQ0 LQ0 LQ1 LQ2 LQ3 LQ4 IQ0 IQ1 aS ++ w_T cI cJ cZ aT VT0 NT0 NT1 LT0 IT0 aS) := hD
      have hbl30 := hp_below (x := x2) (n := VS2) (by omega)
      rw [hy30] at hbl30
      refine lv_if_eq (tgt := 44) hx hb d_HaulFlows_moved_33 (by decide) (fun c33 => ?_) (fun c33 => ?_)
      · replace hR := (if_pos c33).symm.trans hR
        refine lv_ldc2 (v := (-1)) hx hb hown (hG _ m_295) d_HaulFlows_moved_44 ?_
        subst hR
        exact W.lret (v := (-1)) hx hb hr (fun t ht hW => ⟨⟨_, (), rfl, rfl, by rw [ht]; exact hP, va_K.moved hW.alike hK, hD⟩, hS.F ht⟩) hS.2.2 d_HaulFlows_moved_47
      · replace hR := (if_neg c33).symm.trans hR
        refine lv_iload_n hx hb d_HaulFlows_moved_36 rfl (lv_at hl 3 rfl) ?_
        refine lv_iconst (v := nI 2) hx hb d_HaulFlows_moved_37 (by decide) ?_
        obtain ⟨y38, hy38, hR⟩ := hw_bind hR
        have hM := c_HaulFlows_isBelow l dC dI cI cJ cZ H.size x3 (nI 2)
        rw [hy38] at hM
        refine hw_callSi (As := [.int x3, .int (nI 2)]) (rest := []) (wr := w_H cI cJ cZ aH VH0 aS aP aQ aT ++ w_S cI cJ cZ aS VS0 VS1 VS2 NS0 NS1 NS2 LS0 LS1 LS2 LS3 LS4 LS5 LS6 LS7 LS8 IS0 aY ++ w_Y cI cJ cZ aY VY0 LY0 LY1 LY2 IY0 ++ w_P cI cJ cZ aP VP0 VP1 VP2 NP0 LP0 LP1 LP2 LP3 LP4 IP0 IP1 aS ++ w_P cI cJ cZ aQ VQ0 VQ1 VQ2 NQ0 LQ0 LQ1 LQ2 LQ3 LQ4 IQ0 IQ1 aS ++ w_T cI cJ cZ aT VT0 NT0 NT1 LT0 IT0 aS) ⟨hx, hb, hml, hown, hG⟩ hM (hw_cwS 2 hG m_220 m_221 m_1 m_222 rfl rfl (by decide +kernel) ⟨Nat.le_of_ble_eq_true rfl, Nat.le_of_ble_eq_true rfl⟩) hK hP hD hS hA [] [0, 1, 2, 3, 4, 5, 6, 7, 8, 9, 10, 11, 12, 13, 14, 15, 16, 17, 18, 19, 20, 21, 22, 23, 24, 25, 26, 27, 28, 29, 30, 31, 32, 33, 34, 35, 36, 37, 38, 39, 40, 41, 42] rfl rfl (by decide) (by decide) (by decide) rfl hl.1 rfl (Nat.le_of_ble_eq_true rfl) d_HaulFlows_moved_38 ⟨Nat.le_of_ble_eq_true rfl, Nat.le_of_ble_eq_true rfl⟩ (fun H locs hP hD hS => ?_)
        have hP : va_P (dC, dI) vwCl (w_H cI cJ cZ aH VH0 aS aP aQ aT ++ w_S cI cJ cZ aS VS0 VS1 VS2 NS0 NS1 NS2 LS0 LS1 LS2 LS3 LS4 LS5 LS6 LS7 LS8 IS0 aY ++ w_Y cI cJ cZ aY VY0 LY0 LY1 LY2 IY0 ++ w_P cI cJ cZ aP VP0 VP1 VP2 NP0 LP0 LP1 LP2 LP3 LP4 IP0 IP1 aS ++ w_P cI cJ cZ aQ VQ0 VQ1 VQ2 NQ0 LQ0 LQ1 LQ2 LQ3 LQ4 IQ0 IQ1 aS ++ w_T cI cJ cZ aT VT0 NT0 NT1 LT0 IT0 aS) H := hP
        have hD : va_D A (w_H cI cJ cZ aH VH0 aS aP aQ aT ++ w_S cI cJ cZ aS VS0 VS1 VS2 NS0 NS1 NS2 LS0 LS1 LS2 LS3 LS4 LS5 LS6 LS7 LS8 IS0 aY ++ w_Y cI cJ cZ aY VY0 LY0 LY1 LY2 IY0 ++ w_P cI cJ cZ aP VP0 VP1 VP2 NP0 LP0 LP1 LP2 LP3 LP4 IP0 IP1 aS ++ w_P cI cJ cZ aQ VQ0 VQ1 VQ2 NQ0 LQ0 LQ1 LQ2 LQ3 LQ4 IQ0 IQ1 aS ++ w_T cI cJ cZ aT VT0 NT0 NT1 LT0 IT0 aS) := hD
        have hbl38 := hp_below (x := x3) (n := 2) (by omega)
        rw [hy38] at hbl38
        refine lv_if_ne (tgt := 48) hx hb d_HaulFlows_moved_41 (by decide) (fun c41 => ?_) (fun c41 => ?_)
        · replace hR := (if_neg c41).symm.trans hR
          obtain ⟨hna1, hnb1⟩ := hbl16 c19
          obtain ⟨hna2, hnb2⟩ := hbl30 c33
          have en48_1 : nI (x1.toNatClampNeg) = x1 := hw_nat hna1
          have hl : lv_has ls 4 [(0, .ref (aH 0)), (1, .int (nI x1.toNatClampNeg)), (2, .int x2), (3, .int x3)] := by rw [en48_1]; exact hl
          have en48_2 : nI (x2.toNatClampNeg) = x2 := hw_nat hna2
          have hl : lv_has ls 4 [(0, .ref (aH 0)), (1, .int (nI x1.toNatClampNeg)), (2, .int (nI x2.toNatClampNeg)), (3, .int x3)] := by rw [en48_2]; exact hl
          refine lv_iload_n hx hb d_HaulFlows_moved_48 rfl (lv_at hl 3 rfl) ?_
          refine lv_if_ne (tgt := 64) hx hb d_HaulFlows_moved_49 (by decide) (fun c49 => ?_) (fun c49 => ?_)
          · replace hR := (if_neg c49).symm.trans hR
            refine lv_aload_n hx hb d_HaulFlows_moved_64 rfl (lv_at hl 0 rfl) ?_
            refine va_get (D := (dC, dI)) (ci := 4) (v := .ref (aP 0)) (C := R_HaulFlows) (T := T_HaulFlows) (N := 5) hx hb hG in_HaulFlows hown hK hP 0 rfl rfl 1 (by decide) (hG _ m_197) (fun _ h9 => h9) rfl d_HaulFlows_moved_65 ?_
            refine lv_iload_n hx hb d_HaulFlows_moved_68 rfl (lv_at hl 1 rfl) ?_
            refine lv_iload_n hx hb d_HaulFlows_moved_69 rfl (lv_at hl 2 rfl) ?_
            obtain ⟨y70, hy70, hR⟩ := hw_bind hR
            have hM := c_Plan_price l dC dI cI cJ cZ H.size aP VP0 VP1 VP2 NP0 LP0 LP1 LP2 LP3 LP4 IP0 IP1 aS VS0 VS1 VS2 NS0 NS1 NS2 LS0 LS1 LS2 LS3 LS4 LS5 LS6 LS7 LS8 IS0 aY VY0 LY0 LY1 LY2 IY0 x1.toNatClampNeg x2.toNatClampNeg (by first | assumption | omega) (by first | assumption | omega)
            rw [hy70] at hM
            refine hw_callVl (As := [.int (nI x1.toNatClampNeg), .int (nI x2.toNatClampNeg)]) (rest := []) (wr := w_H cI cJ cZ aH VH0 aS aP aQ aT ++ w_P cI cJ cZ aQ VQ0 VQ1 VQ2 NQ0 LQ0 LQ1 LQ2 LQ3 LQ4 IQ0 IQ1 aS ++ w_T cI cJ cZ aT VT0 NT0 NT1 LT0 IT0 aS) ⟨hx, hb, hml, hown, hG⟩ hM (hw_cwV 2 hG m_300 m_301 m_302 m_5 m_303 rfl rfl (by decide +kernel) ⟨Nat.le_of_ble_eq_true rfl, Nat.le_of_ble_eq_true rfl⟩) hK hP hD hS hA [20, 21, 22, 23, 24, 25, 26, 27, 28, 1, 2, 3, 4, 5, 6, 7, 8, 9, 10, 11, 12, 13, 14, 15, 16, 17, 18, 19] [0, 29, 30, 31, 32, 33, 34, 35, 36, 37, 38, 39, 40, 41, 42] rfl rfl (by decide) (by decide) (by decide) (hw_recv hK hP 20 rfl rfl) rfl hl.1 rfl (Nat.le_of_ble_eq_true rfl) d_HaulFlows_moved_70 ⟨Nat.le_of_ble_eq_true rfl, Nat.le_of_ble_eq_true rfl⟩ (fun H locs hP hD hS => ?_)
            have hP : va_P (dC, dI) vwCl (w_H cI cJ cZ aH VH0 aS aP aQ aT ++ w_S cI cJ cZ aS VS0 VS1 VS2 NS0 NS1 NS2 LS0 LS1 LS2 LS3 LS4 LS5 LS6 LS7 LS8 IS0 aY ++ w_Y cI cJ cZ aY VY0 LY0 LY1 LY2 IY0 ++ w_P cI cJ cZ aP VP0 VP1 VP2 NP0 LP0 LP1 LP2 LP3 LP4 IP0 IP1 aS ++ w_P cI cJ cZ aQ VQ0 VQ1 VQ2 NQ0 LQ0 LQ1 LQ2 LQ3 LQ4 IQ0 IQ1 aS ++ w_T cI cJ cZ aT VT0 NT0 NT1 LT0 IT0 aS) H := hP.sub [0, 24, 25, 26, 27, 28, 29, 30, 31, 32, 33, 34, 35, 36, 37, 38, 39, 40, 41, 42, 15, 16, 17, 18, 19, 20, 21, 22, 23, 1, 2, 3, 4, 5, 6, 7, 8, 9, 10, 11, 12, 13, 14] rfl
            have hD : va_D A (w_H cI cJ cZ aH VH0 aS aP aQ aT ++ w_S cI cJ cZ aS VS0 VS1 VS2 NS0 NS1 NS2 LS0 LS1 LS2 LS3 LS4 LS5 LS6 LS7 LS8 IS0 aY ++ w_Y cI cJ cZ aY VY0 LY0 LY1 LY2 IY0 ++ w_P cI cJ cZ aP VP0 VP1 VP2 NP0 LP0 LP1 LP2 LP3 LP4 IP0 IP1 aS ++ w_P cI cJ cZ aQ VQ0 VQ1 VQ2 NQ0 LQ0 LQ1 LQ2 LQ3 LQ4 IQ0 IQ1 aS ++ w_T cI cJ cZ aT VT0 NT0 NT1 LT0 IT0 aS) := hD.sub [0, 24, 25, 26, 27, 28, 29, 30, 31, 32, 33, 34, 35, 36, 37, 38, 39, 40, 41, 42, 15, 16, 17, 18, 19, 20, 21, 22, 23, 1, 2, 3, 4, 5, 6, 7, 8, 9, 10, 11, 12, 13, 14] (by decide) rfl
            subst hR
            exact W.lret (v := y70) hx hb hr (fun t ht hW => ⟨⟨_, (), rfl, rfl, by rw [ht]; exact hP, va_K.moved hW.alike hK, hD⟩, hS.F ht⟩) hS.2.2 d_HaulFlows_moved_73
          · replace hR := (if_pos c49).symm.trans hR
            refine lv_aload_n hx hb d_HaulFlows_moved_52 rfl (lv_at hl 0 rfl) ?_
            refine va_get (D := (dC, dI)) (ci := 4) (v := .ref (aP 0)) (C := R_HaulFlows) (T := T_HaulFlows) (N := 5) hx hb hG in_HaulFlows hown hK hP 0 rfl rfl 1 (by decide) (hG _ m_197) (fun _ h9 => h9) rfl d_HaulFlows_moved_53 ?_
            refine lv_iload_n hx hb d_HaulFlows_moved_56 rfl (lv_at hl 1 rfl) ?_
            refine lv_iload_n hx hb d_HaulFlows_moved_57 rfl (lv_at hl 2 rfl) ?_
            obtain ⟨y58, hy58, hR⟩ := hw_bind hR
            have hM := c_Plan_amount l dC dI cI cJ cZ H.size aP VP0 VP1 VP2 NP0 LP0 LP1 LP2 LP3 LP4 IP0 IP1 aS VS0 VS1 VS2 NS0 NS1 NS2 LS0 LS1 LS2 LS3 LS4 LS5 LS6 LS7 LS8 IS0 aY VY0 LY0 LY1 LY2 IY0 x1.toNatClampNeg x2.toNatClampNeg (by first | assumption | omega) (by first | assumption | omega)
            rw [hy58] at hM
            refine hw_callVl (As := [.int (nI x1.toNatClampNeg), .int (nI x2.toNatClampNeg)]) (rest := []) (wr := w_H cI cJ cZ aH VH0 aS aP aQ aT ++ w_P cI cJ cZ aQ VQ0 VQ1 VQ2 NQ0 LQ0 LQ1 LQ2 LQ3 LQ4 IQ0 IQ1 aS ++ w_T cI cJ cZ aT VT0 NT0 NT1 LT0 IT0 aS) ⟨hx, hb, hml, hown, hG⟩ hM (hw_cwV 2 hG m_296 m_297 m_298 m_5 m_299 rfl rfl (by decide +kernel) ⟨Nat.le_of_ble_eq_true rfl, Nat.le_of_ble_eq_true rfl⟩) hK hP hD hS hA [20, 21, 22, 23, 24, 25, 26, 27, 28, 1, 2, 3, 4, 5, 6, 7, 8, 9, 10, 11, 12, 13, 14, 15, 16, 17, 18, 19] [0, 29, 30, 31, 32, 33, 34, 35, 36, 37, 38, 39, 40, 41, 42] rfl rfl (by decide) (by decide) (by decide) (hw_recv hK hP 20 rfl rfl) rfl hl.1 rfl (Nat.le_of_ble_eq_true rfl) d_HaulFlows_moved_58 ⟨Nat.le_of_ble_eq_true rfl, Nat.le_of_ble_eq_true rfl⟩ (fun H locs hP hD hS => ?_)
            have hP : va_P (dC, dI) vwCl (w_H cI cJ cZ aH VH0 aS aP aQ aT ++ w_S cI cJ cZ aS VS0 VS1 VS2 NS0 NS1 NS2 LS0 LS1 LS2 LS3 LS4 LS5 LS6 LS7 LS8 IS0 aY ++ w_Y cI cJ cZ aY VY0 LY0 LY1 LY2 IY0 ++ w_P cI cJ cZ aP VP0 VP1 VP2 NP0 LP0 LP1 LP2 LP3 LP4 IP0 IP1 aS ++ w_P cI cJ cZ aQ VQ0 VQ1 VQ2 NQ0 LQ0 LQ1 LQ2 LQ3 LQ4 IQ0 IQ1 aS ++ w_T cI cJ cZ aT VT0 NT0 NT1 LT0 IT0 aS) H := hP.sub [0, 24, 25, 26, 27, 28, 29, 30, 31, 32, 33, 34, 35, 36, 37, 38, 39, 40, 41, 42, 15, 16, 17, 18, 19, 20, 21, 22, 23, 1, 2, 3, 4, 5, 6, 7, 8, 9, 10, 11, 12, 13, 14] rfl
            have hD : va_D A (w_H cI cJ cZ aH VH0 aS aP aQ aT ++ w_S cI cJ cZ aS VS0 VS1 VS2 NS0 NS1 NS2 LS0 LS1 LS2 LS3 LS4 LS5 LS6 LS7 LS8 IS0 aY ++ w_Y cI cJ cZ aY VY0 LY0 LY1 LY2 IY0 ++ w_P cI cJ cZ aP VP0 VP1 VP2 NP0 LP0 LP1 LP2 LP3 LP4 IP0 IP1 aS ++ w_P cI cJ cZ aQ VQ0 VQ1 VQ2 NQ0 LQ0 LQ1 LQ2 LQ3 LQ4 IQ0 IQ1 aS ++ w_T cI cJ cZ aT VT0 NT0 NT1 LT0 IT0 aS) := hD.sub [0, 24, 25, 26, 27, 28, 29, 30, 31, 32, 33, 34, 35, 36, 37, 38, 39, 40, 41, 42, 15, 16, 17, 18, 19, 20, 21, 22, 23, 1, 2, 3, 4, 5, 6, 7, 8, 9, 10, 11, 12, 13, 14] (by decide) rfl
            refine lv_goto (tgt := 73) hx hb d_HaulFlows_moved_61 (by decide) ?_
            subst hR
            exact W.lret (v := y58) hx hb hr (fun t ht hW => ⟨⟨_, (), rfl, rfl, by rw [ht]; exact hP, va_K.moved hW.alike hK, hD⟩, hS.F ht⟩) hS.2.2 d_HaulFlows_moved_73
        · replace hR := (if_pos c41).symm.trans hR
          refine lv_ldc2 (v := (-1)) hx hb hown (hG _ m_295) d_HaulFlows_moved_44 ?_
          subst hR
          exact W.lret (v := (-1)) hx hb hr (fun t ht hW => ⟨⟨_, (), rfl, rfl, by rw [ht]; exact hP, va_K.moved hW.alike hK, hD⟩, hS.F ht⟩) hS.2.2 d_HaulFlows_moved_47
def f_HaulFlows_cost (VH0 : Nat) (VS0 : Nat) (VS1 : Nat) (VP0 : Nat) (VP1 : Nat) (LP0 : Nat → Int64) (LP1 : Nat → Int64) (x1 : Int32) : Int64 :=
  if VH0 = 1 then (hh_bind (f_HaulFlows_isBelow x1 (nI 3)) (fun y10 => if y10 = 0 then ((-1)) else (if x1 = 0 then (hh_bind (f_Plan_totalPrice VP0 VP1 LP0 LP1) (fun y28 => (y28))) else (if x1 = (nI 1) then (hh_bind (f_Site_sources VS0 VS1) (fun y56 => hh_bind (f_Plan_amountFrom VP1 LP1 0 y56) (fun y59 => (y59)))) else (hh_bind (f_Site_sources VS0 VS1) (fun y56 => hh_bind (f_Plan_amountFrom VP1 LP1 VS0 y56) (fun y59 => (y59)))))))) else ((-1))
set_option maxHeartbeats 4000000 in
set_option maxRecDepth 100000 in
theorem c_HaulFlows_cost (l : Launch) (dC : Nat → ClassId) (dI : Nat → Nat → Nat) (cI cJ cZ : ClassId) (sz : Nat) (aH : Nat → Nat) (VH0 : Nat) (aS : Nat → Nat) (VS0 : Nat) (VS1 : Nat) (VS2 : Nat) (NS0 : Nat → Nat) (NS1 : Nat → Nat) (NS2 : Nat → Nat) (LS0 : Nat → Int64) (LS1 : Nat → Int64) (LS2 : Nat → Int64) (LS3 : Nat → Int64) (LS4 : Nat → Int64) (LS5 : Nat → Int64) (LS6 : Nat → Int64) (LS7 : Nat → Int64) (LS8 : Nat → Int64) (IS0 : Nat → Int32) (aY : Nat → Nat) (VY0 : Nat) (LY0 : Nat → Int64) (LY1 : Nat → Int64) (LY2 : Nat → Int64) (IY0 : Nat → Int32) (aP : Nat → Nat) (VP0 : Nat) (VP1 : Nat) (VP2 : Nat) (NP0 : Nat → Nat) (LP0 : Nat → Int64) (LP1 : Nat → Int64) (LP2 : Nat → Int64) (LP3 : Nat → Int64) (LP4 : Nat → Int64) (IP0 : Nat → Int32) (IP1 : Nat → Int32) (aQ : Nat → Nat) (VQ0 : Nat) (VQ1 : Nat) (VQ2 : Nat) (NQ0 : Nat → Nat) (LQ0 : Nat → Int64) (LQ1 : Nat → Int64) (LQ2 : Nat → Int64) (LQ3 : Nat → Int64) (LQ4 : Nat → Int64) (IQ0 : Nat → Int32) (IQ1 : Nat → Int32) (aT : Nat → Nat) (VT0 : Nat) (NT0 : Nat → Nat) (NT1 : Nat → Nat) (LT0 : Nat → Int64) (IT0 : Nat → Int32) (x1 : Int32) (hc8 : VS0 ≤ 8) (hp4 : VS1 ≤ 4) (hf8 : VS2 ≤ 8) (hy6 : VY0 ≤ 6) (hk4 : ∀ i, NS0 i < 4) (hcw : ∀ i, NS1 i < 12) (hfw : ∀ i, NS2 i < 12) (hq : ∀ i, NP0 i < 21) (htq : ∀ i, NT1 i < 34) (hst : VH0 ≤ 2) (hpl : VH0 = 1 → VP0 = VS0 + VS1 ∧ VP1 = VS2) (hsf : VT0 ≤ 8) : hh_Cl l y_HaulFlows_cost u_HaulFlows_cost ({ frames := 2, cells := 0, slots := 0, locals := 48 }) (dC, dI) vwCl [(cI, .int), (cJ, .long), (cZ, .boolean)] (w_H cI cJ cZ aH VH0 aS aP aQ aT ++ w_S cI cJ cZ aS VS0 VS1 VS2 NS0 NS1 NS2 LS0 LS1 LS2 LS3 LS4 LS5 LS6 LS7 LS8 IS0 aY ++ w_Y cI cJ cZ aY VY0 LY0 LY1 LY2 IY0 ++ w_P cI cJ cZ aP VP0 VP1 VP2 NP0 LP0 LP1 LP2 LP3 LP4 IP0 IP1 aS ++ w_P cI cJ cZ aQ VQ0 VQ1 VQ2 NQ0 LQ0 LQ1 LQ2 LQ3 LQ4 IQ0 IQ1 aS ++ w_T cI cJ cZ aT VT0 NT0 NT1 LT0 IT0 aS) sz [.ref (aH 0), .int x1] (f_HaulFlows_cost VH0 VS0 VS1 VP0 VP1 LP0 LP1 x1) (w_H cI cJ cZ aH VH0 aS aP aQ aT ++ w_S cI cJ cZ aS VS0 VS1 VS2 NS0 NS1 NS2 LS0 LS1 LS2 LS3 LS4 LS5 LS6 LS7 LS8 IS0 aY ++ w_Y cI cJ cZ aY VY0 LY0 LY1 LY2 IY0 ++ w_P cI cJ cZ aP VP0 VP1 VP2 NP0 LP0 LP1 LP2 LP3 LP4 IP0 IP1 aS ++ w_P cI cJ cZ aQ VQ0 VQ1 VQ2 NQ0 LQ0 LQ1 LQ2 LQ3 LQ4 IQ0 IQ1 aS ++ w_T cI cJ cZ aT VT0 NT0 NT1 LT0 IT0 aS) 0 0 := by
  unfold hh_Cl
  refine Met.ofW (cc := b_HaulFlows_cost) (maxL := 2) (ret := (some .long)) (by decide) rfl ?_
  intro p e s m args below meth c s₁ B hml hv
  obtain ⟨rfl, hsz, hP, hK, hD0⟩ := hv
  have hx := B.exec
  have hb := B.bytes
  have hr := B.returns
  have hts := atoms_spec (ws := u_HaulFlows_cost) B.pre
  have hG : ∀ w ∈ wG, w.before ([.ref (aH 0), .int x1]).toArray s = true := fun w h => hts w (List.mem_cons_of_mem _ h)
  have hown : s.vm.findClass R_HaulFlows = some m.cls := findClass_of_methodNamed B.named
  have hlocks := B.notSynchronized
  subst hsz
  have hD := hD0.self (sz := s.heap.size)
  generalize hAe : va_A (w_H cI cJ cZ aH VH0 aS aP aQ aT ++ w_S cI cJ cZ aS VS0 VS1 VS2 NS0 NS1 NS2 LS0 LS1 LS2 LS3 LS4 LS5 LS6 LS7 LS8 IS0 aY ++ w_Y cI cJ cZ aY VY0 LY0 LY1 LY2 IY0 ++ w_P cI cJ cZ aP VP0 VP1 VP2 NP0 LP0 LP1 LP2 LP3 LP4 IP0 IP1 aS ++ w_P cI cJ cZ aQ VQ0 VQ1 VQ2 NQ0 LQ0 LQ1 LQ2 LQ3 LQ4 IQ0 IQ1 aS ++ w_T cI cJ cZ aT VT0 NT0 NT1 LT0 IT0 aS) s.heap.size = A at hD ⊢
  have hA : ∀ q : Nat, s.heap.size ≤ q → A q := fun q h => by rw [← hAe]; exact Or.inr h
  have hS : va_S A s.heap s.heap [] := va_S.rf
  have hl := lv_entry ([.ref (aH 0), .int x1]) (n := 2) (Nat.le_of_ble_eq_true rfl)
  rw [lg_entry_eq]
  generalize (lg_sl ([.ref (aH 0), .int x1]) ++ List.replicate (2 - (lg_sl ([.ref (aH 0), .int x1])).length) Slot.unset).toArray = ls at hl ⊢
  have hl : lv_has ls 2 [(0, .ref (aH 0)), (1, .int x1)] := hl
  generalize hR : f_HaulFlows_cost VH0 VS0 VS1 VP0 VP1 LP0 LP1 x1 = r0
  obtain ⟨H, locs, hHe, hle⟩ : ∃ (H : Heap) (locs : List Loc), s.heap = H ∧ [] = locs := ⟨_, _, rfl, rfl⟩
  have hP : va_P (dC, dI) vwCl (w_H cI cJ cZ aH VH0 aS aP aQ aT ++ w_S cI cJ cZ aS VS0 VS1 VS2 NS0 NS1 NS2 LS0 LS1 LS2 LS3 LS4 LS5 LS6 LS7 LS8 IS0 aY ++ w_Y cI cJ cZ aY VY0 LY0 LY1 LY2 IY0 ++ w_P cI cJ cZ aP VP0 VP1 VP2 NP0 LP0 LP1 LP2 LP3 LP4 IP0 IP1 aS ++ w_P cI cJ cZ aQ VQ0 VQ1 VQ2 NQ0 LQ0 LQ1 LQ2 LQ3 LQ4 IQ0 IQ1 aS ++ w_T cI cJ cZ aT VT0 NT0 NT1 LT0 IT0 aS) H := by rw [← hHe]; exact hP
  have hS : va_S A s.heap H locs := by rw [← hHe, ← hle]; exact hS
  refine hw_start hHe hle ?_
  unfold f_HaulFlows_cost at hR
  refine lv_aload_n hx hb d_HaulFlows_cost_0 rfl (lv_at hl 0 rfl) ?_
  refine va_get (D := (dC, dI)) (ci := 4) (v := .int (nI VH0)) (C := R_HaulFlows) (T := T_HaulFlows) (N := 5) hx hb hG in_HaulFlows hown hK hP 0 rfl rfl 4 (by decide) (hG _ m_200) (fun _ h9 => h9) rfl d_HaulFlows_cost_1 ?_
  refine lv_iconst (v := nI 1) hx hb d_HaulFlows_cost_4 (by decide) ?_
  refine hw_icmp_ne (tgt := 16) hx hb d_HaulFlows_cost_5 (by decide) (by omega) (by omega) (fun c5 => ?_) (fun c5 => ?_)
  · replace hR := (if_neg c5).symm.trans hR
    refine lv_ldc2 (v := (-1)) hx hb hown (hG _ m_295) d_HaulFlows_cost_16 ?_
    subst hR
    exact W.lret (v := (-1)) hx hb hr (fun t ht hW => ⟨⟨_, (), rfl, rfl, by rw [ht]; exact hP, va_K.moved hW.alike hK, hD⟩, hS.F ht⟩) hS.2.2 d_HaulFlows_cost_19
  · replace hR := (if_pos c5).symm.trans hR
    obtain ⟨hpl0, hpl1⟩ := hpl c5
    refine lv_iload_n hx hb d_HaulFlows_cost_8 rfl (lv_at hl 1 rfl) ?_
    refine lv_iconst (v := nI 3) hx hb d_HaulFlows_cost_9 (by decide) ?_
    obtain ⟨y10, hy10, hR⟩ := hw_bind hR
    have hM := c_HaulFlows_isBelow l dC dI cI cJ cZ H.size x1 (nI 3)
    rw [hy10] at hM
    refine hw_callSi (As := [.int x1, .int (nI 3)]) (rest := []) (wr := w_H cI cJ cZ aH VH0 aS aP aQ aT ++ w_S cI cJ cZ aS VS0 VS1 VS2 NS0 NS1 NS2 LS0 LS1 LS2 LS3 LS4 LS5 LS6 LS7 LS8 IS0 aY ++ w_Y cI cJ cZ aY VY0 LY0 LY1 LY2 IY0 ++ w_P cI cJ cZ aP VP0 VP1 VP2 NP0 LP0 LP1 LP2 LP3 LP4 IP0 IP1 aS ++ w_P cI cJ cZ aQ VQ0 VQ1 VQ2 NQ0 LQ0 LQ1 LQ2 LQ3 LQ4 IQ0 IQ1 aS ++ w_T cI cJ cZ aT VT0 NT0 NT1 LT0 IT0 aS) ⟨hx, hb, hml, hown, hG⟩ hM (hw_cwS 2 hG m_220 m_221 m_1 m_222 rfl rfl (by decide +kernel) ⟨Nat.le_of_ble_eq_true rfl, Nat.le_of_ble_eq_true rfl⟩) hK hP hD hS hA [] [0, 1, 2, 3, 4, 5, 6, 7, 8, 9, 10, 11, 12, 13, 14, 15, 16, 17, 18, 19, 20, 21, 22, 23, 24, 25, 26, 27, 28, 29, 30, 31, 32, 33, 34, 35, 36, 37, 38, 39, 40, 41, 42] rfl rfl (by decide) (by decide) (by decide) rfl hl.1 rfl (Nat.le_of_ble_eq_true rfl) d_HaulFlows_cost_10 ⟨Nat.le_of_ble_eq_true rfl, Nat.le_of_ble_eq_true rfl⟩ (fun H locs hP hD hS => ?_)
    have hP : va_P (dC, dI) vwCl (w_H cI cJ cZ aH VH0 aS aP aQ aT ++ w_S cI cJ cZ aS VS0 VS1 VS2 NS0 NS1 NS2 LS0 LS1 LS2 LS3 LS4 LS5 LS6 LS7 LS8 IS0 aY ++ w_Y cI cJ cZ aY VY0 LY0 LY1 LY2 IY0 ++ w_P cI cJ cZ aP VP0 VP1 VP2 NP0 LP0 LP1 LP2 LP3 LP4 IP0 IP1 aS ++ w_P cI cJ cZ aQ VQ0 VQ1 VQ2 NQ0 LQ0 LQ1 LQ2 LQ3 LQ4 IQ0 IQ1 aS ++ w_T cI cJ cZ aT VT0 NT0 NT1 LT0 IT0 aS) H := hP
    have hD : va_D A (w_H cI cJ cZ aH VH0 aS aP aQ aT ++ w_S cI cJ cZ aS VS0 VS1 VS2 NS0 NS1 NS2 LS0 LS1 LS2 LS3 LS4 LS5 LS6 LS7 LS8 IS0 aY ++ w_Y cI cJ cZ aY VY0 LY0 LY1 LY2 IY0 ++ w_P cI cJ cZ aP VP0 VP1 VP2 NP0 LP0 LP1 LP2 LP3 LP4 IP0 IP1 aS ++ w_P cI cJ cZ aQ VQ0 VQ1 VQ2 NQ0 LQ0 LQ1 LQ2 LQ3 LQ4 IQ0 IQ1 aS ++ w_T cI cJ cZ aT VT0 NT0 NT1 LT0 IT0 aS) := hD
    have hbl10 := hp_below (x := x1) (n := 3) (by omega)
    rw [hy10] at hbl10
    refine lv_if_ne (tgt := 20) hx hb d_HaulFlows_cost_13 (by decide) (fun c13 => ?_) (fun c13 => ?_)
    · replace hR := (if_neg c13).symm.trans hR
      refine lv_iload_n hx hb d_HaulFlows_cost_20 rfl (lv_at hl 1 rfl) ?_
      refine lv_if_ne (tgt := 32) hx hb d_HaulFlows_cost_21 (by decide) (fun c21 => ?_) (fun c21 => ?_)
      · replace hR := (if_neg c21).symm.trans hR
        refine lv_aload_n hx hb d_HaulFlows_cost_32 rfl (lv_at hl 0 rfl) ?_
        refine va_get (D := (dC, dI)) (ci := 4) (v := .ref (aP 0)) (C := R_HaulFlows) (T := T_HaulFlows) (N := 5) hx hb hG in_HaulFlows hown hK hP 0 rfl rfl 1 (by decide) (hG _ m_197) (fun _ h9 => h9) rfl d_HaulFlows_cost_33 ?_
        refine lv_iload_n hx hb d_HaulFlows_cost_36 rfl (lv_at hl 1 rfl) ?_
        refine lv_iconst (v := nI 1) hx hb d_HaulFlows_cost_37 (by decide) ?_
        refine lv_icmp_ne (tgt := 45) hx hb d_HaulFlows_cost_38 (by decide) (fun c38 => ?_) (fun c38 => ?_)
        · replace hR := (if_neg c38).symm.trans hR
          refine lv_aload_n hx hb d_HaulFlows_cost_45 rfl (lv_at hl 0 rfl) ?_
          refine va_get (D := (dC, dI)) (ci := 4) (v := .ref (aS 0)) (C := R_HaulFlows) (T := T_HaulFlows) (N := 5) hx hb hG in_HaulFlows hown hK hP 0 rfl rfl 0 (by decide) (hG _ m_196) (fun _ h9 => h9) rfl d_HaulFlows_cost_46 ?_
          refine va_get (D := (dC, dI)) (ci := 2) (v := .int (nI VS0)) (C := R_Site) (T := T_Site) (N := 17) hx hb hG in_Site hown hK hP 1 rfl rfl 0 (by decide) (hG _ m_57) (fun _ h9 => h9) rfl d_HaulFlows_cost_49 ?_
          refine lv_aload_n hx hb d_HaulFlows_cost_52 rfl (lv_at hl 0 rfl) ?_
          refine va_get (D := (dC, dI)) (ci := 4) (v := .ref (aS 0)) (C := R_HaulFlows) (T := T_HaulFlows) (N := 5) hx hb hG in_HaulFlows hown hK hP 0 rfl rfl 0 (by decide) (hG _ m_196) (fun _ h9 => h9) rfl d_HaulFlows_cost_53 ?_
          obtain ⟨y56, hy56, hR⟩ := hw_bind hR
          have hM := c_Site_sources l dC dI cI cJ cZ H.size aS VS0 VS1 VS2 NS0 NS1 NS2 LS0 LS1 LS2 LS3 LS4 LS5 LS6 LS7 LS8 IS0 aY VY0 LY0 LY1 LY2 IY0
          rw [hy56] at hM
          refine hw_callVi (As := []) (rest := [.int (nI VS0), .ref (aP 0)]) (wr := w_H cI cJ cZ aH VH0 aS aP aQ aT ++ w_P cI cJ cZ aP VP0 VP1 VP2 NP0 LP0 LP1 LP2 LP3 LP4 IP0 IP1 aS ++ w_P cI cJ cZ aQ VQ0 VQ1 VQ2 NQ0 LQ0 LQ1 LQ2 LQ3 LQ4 IQ0 IQ1 aS ++ w_T cI cJ cZ aT VT0 NT0 NT1 LT0 IT0 aS) ⟨hx, hb, hml, hown, hG⟩ hM (hw_cwV 0 hG m_291 m_292 m_293 m_2 m_294 rfl rfl (by decide +kernel) ⟨Nat.le_of_ble_eq_true rfl, Nat.le_of_ble_eq_true rfl⟩) hK hP hD hS hA [1, 2, 3, 4, 5, 6, 7, 8, 9, 10, 11, 12, 13, 14, 15, 16, 17, 18, 19] [0, 20, 21, 22, 23, 24, 25, 26, 27, 28, 29, 30, 31, 32, 33, 34, 35, 36, 37, 38, 39, 40, 41, 42] rfl rfl (by decide) (by decide) (by decide) (hw_recv hK hP 1 rfl rfl) rfl hl.1 rfl (Nat.le_of_ble_eq_true rfl) d_HaulFlows_cost_56 ⟨Nat.le_of_ble_eq_true rfl, Nat.le_of_ble_eq_true rfl⟩ (fun H locs hP hD hS => ?_)
          have hP : va_P (dC, dI) vwCl (w_H cI cJ cZ aH VH0 aS aP aQ aT ++ w_S cI cJ cZ aS VS0 VS1 VS2 NS0 NS1 NS2 LS0 LS1 LS2 LS3 LS4 LS5 LS6 LS7 LS8 IS0 aY ++ w_Y cI cJ cZ aY VY0 LY0 LY1 LY2 IY0 ++ w_P cI cJ cZ aP VP0 VP1 VP2 NP0 LP0 LP1 LP2 LP3 LP4 IP0 IP1 aS ++ w_P cI cJ cZ aQ VQ0 VQ1 VQ2 NQ0 LQ0 LQ1 LQ2 LQ3 LQ4 IQ0 IQ1 aS ++ w_T cI cJ cZ aT VT0 NT0 NT1 LT0 IT0 aS) H := hP.sub [0, 24, 25, 26, 27, 28, 29, 30, 31, 32, 33, 34, 35, 36, 37, 38, 39, 40, 41, 42, 1, 2, 3, 4, 5, 6, 7, 8, 9, 10, 11, 12, 13, 14, 15, 16, 17, 18, 19, 20, 21, 22, 23] rfl
          have hD : va_D A (w_H cI cJ cZ aH VH0 aS aP aQ aT ++ w_S cI cJ cZ aS VS0 VS1 VS2 NS0 NS1 NS2 LS0 LS1 LS2 LS3 LS4 LS5 LS6 LS7 LS8 IS0 aY ++ w_Y cI cJ cZ aY VY0 LY0 LY1 LY2 IY0 ++ w_P cI cJ cZ aP VP0 VP1 VP2 NP0 LP0 LP1 LP2 LP3 LP4 IP0 IP1 aS ++ w_P cI cJ cZ aQ VQ0 VQ1 VQ2 NQ0 LQ0 LQ1 LQ2 LQ3 LQ4 IQ0 IQ1 aS ++ w_T cI cJ cZ aT VT0 NT0 NT1 LT0 IT0 aS) := hD.sub [0, 24, 25, 26, 27, 28, 29, 30, 31, 32, 33, 34, 35, 36, 37, 38, 39, 40, 41, 42, 1, 2, 3, 4, 5, 6, 7, 8, 9, 10, 11, 12, 13, 14, 15, 16, 17, 18, 19, 20, 21, 22, 23] (by decide) rfl
          have hs56 : y56 = VS0 + VS1 := by rw [← hy56]; rfl
          obtain ⟨y59, hy59, hR⟩ := hw_bind hR
          have hM := c_Plan_amountFrom l dC dI cI cJ cZ H.size aP VP0 VP1 VP2 NP0 LP0 LP1 LP2 LP3 LP4 IP0 IP1 aS VS0 VS1 VS2 NS0 NS1 NS2 LS0 LS1 LS2 LS3 LS4 LS5 LS6 LS7 LS8 IS0 aY VY0 LY0 LY1 LY2 IY0 VS0 y56 (by first | assumption | omega) (by first | assumption | omega) (by first | assumption | omega)
          rw [hy59] at hM
          refine hw_callVl (As := [.int (nI VS0), .int (nI y56)]) (rest := []) (wr := w_H cI cJ cZ aH VH0 aS aP aQ aT ++ w_P cI cJ cZ aQ VQ0 VQ1 VQ2 NQ0 LQ0 LQ1 LQ2 LQ3 LQ4 IQ0 IQ1 aS ++ w_T cI cJ cZ aT VT0 NT0 NT1 LT0 IT0 aS) ⟨hx, hb, hml, hown, hG⟩ hM (hw_cwV 2 hG m_313 m_314 m_315 m_5 m_316 rfl rfl (by decide +kernel) ⟨Nat.le_of_ble_eq_true rfl, Nat.le_of_ble_eq_true rfl⟩) hK hP hD hS hA [20, 21, 22, 23, 24, 25, 26, 27, 28, 1, 2, 3, 4, 5, 6, 7, 8, 9, 10, 11, 12, 13, 14, 15, 16, 17, 18, 19] [0, 29, 30, 31, 32, 33, 34, 35, 36, 37, 38, 39, 40, 41, 42] rfl rfl (by decide) (by decide) (by decide) (hw_recv hK hP 20 rfl rfl) rfl hl.1 rfl (Nat.le_of_ble_eq_true rfl) d_HaulFlows_cost_59 ⟨Nat.le_of_ble_eq_true rfl, Nat.le_of_ble_eq_true rfl⟩ (fun H locs hP hD hS => ?_)
          have hP : va_P (dC, dI) vwCl (w_H cI cJ cZ aH VH0 aS aP aQ aT ++ w_S cI cJ cZ aS VS0 VS1 VS2 NS0 NS1 NS2 LS0 LS1 LS2 LS3 LS4 LS5 LS6 LS7 LS8 IS0 aY ++ w_Y cI cJ cZ aY VY0 LY0 LY1 LY2 IY0 ++ w_P cI cJ cZ aP VP0 VP1 VP2 NP0 LP0 LP1 LP2 LP3 LP4 IP0 IP1 aS ++ w_P cI cJ cZ aQ VQ0 VQ1 VQ2 NQ0 LQ0 LQ1 LQ2 LQ3 LQ4 IQ0 IQ1 aS ++ w_T cI cJ cZ aT VT0 NT0 NT1 LT0 IT0 aS) H := hP.sub [0, 24, 25, 26, 27, 28, 29, 30, 31, 32, 33, 34, 35, 36, 37, 38, 39, 40, 41, 42, 15, 16, 17, 18, 19, 20, 21, 22, 23, 1, 2, 3, 4, 5, 6, 7, 8, 9, 10, 11, 12, 13, 14] rfl
          have hD : va_D A (w_H cI cJ cZ aH VH0 aS aP aQ aT ++ w_S cI cJ cZ aS VS0 VS1 VS2 NS0 NS1 NS2 LS0 LS1 LS2 LS3 LS4 LS5 LS6 LS7 LS8 IS0 aY ++ w_Y cI cJ cZ aY VY0 LY0 LY1 LY2 IY0 ++ w_P cI cJ cZ aP VP0 VP1 VP2 NP0 LP0 LP1 LP2 LP3 LP4 IP0 IP1 aS ++ w_P cI cJ cZ aQ VQ0 VQ1 VQ2 NQ0 LQ0 LQ1 LQ2 LQ3 LQ4 IQ0 IQ1 aS ++ w_T cI cJ cZ aT VT0 NT0 NT1 LT0 IT0 aS) := hD.sub [0, 24, 25, 26, 27, 28, 29, 30, 31, 32, 33, 34, 35, 36, 37, 38, 39, 40, 41, 42, 15, 16, 17, 18, 19, 20, 21, 22, 23, 1, 2, 3, 4, 5, 6, 7, 8, 9, 10, 11, 12, 13, 14] (by decide) rfl
          subst hR
          exact W.lret (v := y59) hx hb hr (fun t ht hW => ⟨⟨_, (), rfl, rfl, by rw [ht]; exact hP, va_K.moved hW.alike hK, hD⟩, hS.F ht⟩) hS.2.2 d_HaulFlows_cost_62
        · replace hR := (if_pos c38).symm.trans hR
          refine lv_iconst (v := nI 0) hx hb d_HaulFlows_cost_41 (by decide) ?_
          refine lv_goto (tgt := 52) hx hb d_HaulFlows_cost_42 (by decide) ?_
          refine lv_aload_n hx hb d_HaulFlows_cost_52 rfl (lv_at hl 0 rfl) ?_
          refine va_get (D := (dC, dI)) (ci := 4) (v := .ref (aS 0)) (C := R_HaulFlows) (T := T_HaulFlows) (N := 5) hx hb hG in_HaulFlows hown hK hP 0 rfl rfl 0 (by decide) (hG _ m_196) (fun _ h9 => h9) rfl d_HaulFlows_cost_53 ?_
          obtain ⟨y56, hy56, hR⟩ := hw_bind hR
          have hM := c_Site_sources l dC dI cI cJ cZ H.size aS VS0 VS1 VS2 NS0 NS1 NS2 LS0 LS1 LS2 LS3 LS4 LS5 LS6 LS7 LS8 IS0 aY VY0 LY0 LY1 LY2 IY0
          rw [hy56] at hM
          refine hw_callVi (As := []) (rest := [.int (nI 0), .ref (aP 0)]) (wr := w_H cI cJ cZ aH VH0 aS aP aQ aT ++ w_P cI cJ cZ aP VP0 VP1 VP2 NP0 LP0 LP1 LP2 LP3 LP4 IP0 IP1 aS ++ w_P cI cJ cZ aQ VQ0 VQ1 VQ2 NQ0 LQ0 LQ1 LQ2 LQ3 LQ4 IQ0 IQ1 aS ++ w_T cI cJ cZ aT VT0 NT0 NT1 LT0 IT0 aS) ⟨hx, hb, hml, hown, hG⟩ hM (hw_cwV 0 hG m_291 m_292 m_293 m_2 m_294 rfl rfl (by decide +kernel) ⟨Nat.le_of_ble_eq_true rfl, Nat.le_of_ble_eq_true rfl⟩) hK hP hD hS hA [1, 2, 3, 4, 5, 6, 7, 8, 9, 10, 11, 12, 13, 14, 15, 16, 17, 18, 19] [0, 20, 21, 22, 23, 24, 25, 26, 27, 28, 29, 30, 31, 32, 33, 34, 35, 36, 37, 38, 39, 40, 41, 42] rfl rfl (by decide) (by decide) (by decide) (hw_recv hK hP 1 rfl rfl) rfl hl.1 rfl (Nat.le_of_ble_eq_true rfl) d_HaulFlows_cost_56 ⟨Nat.le_of_ble_eq_true rfl, Nat.le_of_ble_eq_true rfl⟩ (fun H locs hP hD hS => ?_)
          have hP : va_P (dC, dI) vwCl (w_H cI cJ cZ aH VH0 aS aP aQ aT ++ w_S cI cJ cZ aS VS0 VS1 VS2 NS0 NS1 NS2 LS0 LS1 LS2 LS3 LS4 LS5 LS6 LS7 LS8 IS0 aY ++ w_Y cI cJ cZ aY VY0 LY0 LY1 LY2 IY0 ++ w_P cI cJ cZ aP VP0 VP1 VP2 NP0 LP0 LP1 LP2 LP3 LP4 IP0 IP1 aS ++ w_P cI cJ cZ aQ VQ0 VQ1 VQ2 NQ0 LQ0 LQ1 LQ2 LQ3 LQ4 IQ0 IQ1 aS ++ w_T cI cJ cZ aT VT0 NT0 NT1 LT0 IT0 aS) H := hP.sub [0, 24, 25, 26, 27, 28, 29, 30, 31, 32, 33, 34, 35, 36, 37, 38, 39, 40, 41, 42, 1, 2, 3, 4, 5, 6, 7, 8, 9, 10, 11, 12, 13, 14, 15, 16, 17, 18, 19, 20, 21, 22, 23] rfl
          have hD : va_D A (w_H cI cJ cZ aH VH0 aS aP aQ aT ++ w_S cI cJ cZ aS VS0 VS1 VS2 NS0 NS1 NS2 LS0 LS1 LS2 LS3 LS4 LS5 LS6 LS7 LS8 IS0 aY ++ w_Y cI cJ cZ aY VY0 LY0 LY1 LY2 IY0 ++ w_P cI cJ cZ aP VP0 VP1 VP2 NP0 LP0 LP1 LP2 LP3 LP4 IP0 IP1 aS ++ w_P cI cJ cZ aQ VQ0 VQ1 VQ2 NQ0 LQ0 LQ1 LQ2 LQ3 LQ4 IQ0 IQ1 aS ++ w_T cI cJ cZ aT VT0 NT0 NT1 LT0 IT0 aS) := hD.sub [0, 24, 25, 26, 27, 28, 29, 30, 31, 32, 33, 34, 35, 36, 37, 38, 39, 40, 41, 42, 1, 2, 3, 4, 5, 6, 7, 8, 9, 10, 11, 12, 13, 14, 15, 16, 17, 18, 19, 20, 21, 22, 23] (by decide) rfl
          have hs56 : y56 = VS0 + VS1 := by rw [← hy56]; rfl
          obtain ⟨y59, hy59, hR⟩ := hw_bind hR
          have hM := c_Plan_amountFrom l dC dI cI cJ cZ H.size aP VP0 VP1 VP2 NP0 LP0 LP1 LP2 LP3 LP4 IP0 IP1 aS VS0 VS1 VS2 NS0 NS1 NS2 LS0 LS1 LS2 LS3 LS4 LS5 LS6 LS7 LS8 IS0 aY VY0 LY0 LY1 LY2 IY0 0 y56 (by first | assumption | omega) (by first | assumption | omega) (by first | assumption | omega)
          rw [hy59] at hM
          refine hw_callVl (As := [.int (nI 0), .int (nI y56)]) (rest := []) (wr := w_H cI cJ cZ aH VH0 aS aP aQ aT ++ w_P cI cJ cZ aQ VQ0 VQ1 VQ2 NQ0 LQ0 LQ1 LQ2 LQ3 LQ4 IQ0 IQ1 aS ++ w_T cI cJ cZ aT VT0 NT0 NT1 LT0 IT0 aS) ⟨hx, hb, hml, hown, hG⟩ hM (hw_cwV 2 hG m_313 m_314 m_315 m_5 m_316 rfl rfl (by decide +kernel) ⟨Nat.le_of_ble_eq_true rfl, Nat.le_of_ble_eq_true rfl⟩) hK hP hD hS hA [20, 21, 22, 23, 24, 25, 26, 27, 28, 1, 2, 3, 4, 5, 6, 7, 8, 9, 10, 11, 12, 13, 14, 15, 16, 17, 18, 19] [0, 29, 30, 31, 32, 33, 34, 35, 36, 37, 38, 39, 40, 41, 42] rfl rfl (by decide) (by decide) (by decide) (hw_recv hK hP 20 rfl rfl) rfl hl.1 rfl (Nat.le_of_ble_eq_true rfl) d_HaulFlows_cost_59 ⟨Nat.le_of_ble_eq_true rfl, Nat.le_of_ble_eq_true rfl⟩ (fun H locs hP hD hS => ?_)
          have hP : va_P (dC, dI) vwCl (w_H cI cJ cZ aH VH0 aS aP aQ aT ++ w_S cI cJ cZ aS VS0 VS1 VS2 NS0 NS1 NS2 LS0 LS1 LS2 LS3 LS4 LS5 LS6 LS7 LS8 IS0 aY ++ w_Y cI cJ cZ aY VY0 LY0 LY1 LY2 IY0 ++ w_P cI cJ cZ aP VP0 VP1 VP2 NP0 LP0 LP1 LP2 LP3 LP4 IP0 IP1 aS ++ w_P cI cJ cZ aQ VQ0 VQ1 VQ2 NQ0 LQ0 LQ1 LQ2 LQ3 LQ4 IQ0 IQ1 aS ++ w_T cI cJ cZ aT VT0 NT0 NT1 LT0 IT0 aS) H := hP.sub [0, 24, 25, 26, 27, 28, 29, 30, 31, 32, 33, 34, 35, 36, 37, 38, 39, 40, 41, 42, 15, 16, 17, 18, 19, 20, 21, 22, 23, 1, 2, 3, 4, 5, 6, 7, 8, 9, 10, 11, 12, 13, 14] rfl
          have hD : va_D A (w_H cI cJ cZ aH VH0 aS aP aQ aT ++ w_S cI cJ cZ aS VS0 VS1 VS2 NS0 NS1 NS2 LS0 LS1 LS2 LS3 LS4 LS5 LS6 LS7 LS8 IS0 aY ++ w_Y cI cJ cZ aY VY0 LY0 LY1 LY2 IY0 ++ w_P cI cJ cZ aP VP0 VP1 VP2 NP0 LP0 LP1 LP2 LP3 LP4 IP0 IP1 aS ++ w_P cI cJ cZ aQ VQ0 VQ1 VQ2 NQ0 LQ0 LQ1 LQ2 LQ3 LQ4 IQ0 IQ1 aS ++ w_T cI cJ cZ aT VT0 NT0 NT1 LT0 IT0 aS) := hD.sub [0, 24, 25, 26, 27, 28, 29, 30, 31, 32, 33, 34, 35, 36, 37, 38, 39, 40, 41, 42, 15, 16, 17, 18, 19, 20, 21, 22, 23, 1, 2, 3, 4, 5, 6, 7, 8, 9, 10, 11, 12, 13, 14] (by decide) rfl
          subst hR
          exact W.lret (v := y59) hx hb hr (fun t ht hW => ⟨⟨_, (), rfl, rfl, by rw [ht]; exact hP, va_K.moved hW.alike hK, hD⟩, hS.F ht⟩) hS.2.2 d_HaulFlows_cost_62
      · replace hR := (if_pos c21).symm.trans hR
        refine lv_aload_n hx hb d_HaulFlows_cost_24 rfl (lv_at hl 0 rfl) ?_
        refine va_get (D := (dC, dI)) (ci := 4) (v := .ref (aP 0)) (C := R_HaulFlows) (T := T_HaulFlows) (N := 5) hx hb hG in_HaulFlows hown hK hP 0 rfl rfl 1 (by decide) (hG _ m_197) (fun _ h9 => h9) rfl d_HaulFlows_cost_25 ?_
        obtain ⟨y28, hy28, hR⟩ := hw_bind hR
        have hM := c_Plan_totalPrice l dC dI cI cJ cZ H.size aP VP0 VP1 VP2 NP0 LP0 LP1 LP2 LP3 LP4 IP0 IP1 aS VS0 VS1 VS2 NS0 NS1 NS2 LS0 LS1 LS2 LS3 LS4 LS5 LS6 LS7 LS8 IS0 aY VY0 LY0 LY1 LY2 IY0 (by first | assumption | omega) (by first | assumption | omega)
        rw [hy28] at hM
        refine hw_callVl (As := []) (rest := []) (wr := w_H cI cJ cZ aH VH0 aS aP aQ aT ++ w_P cI cJ cZ aQ VQ0 VQ1 VQ2 NQ0 LQ0 LQ1 LQ2 LQ3 LQ4 IQ0 IQ1 aS ++ w_T cI cJ cZ aT VT0 NT0 NT1 LT0 IT0 aS) ⟨hx, hb, hml, hown, hG⟩ hM (hw_cwV 0 hG m_308 m_309 m_310 m_5 m_311 rfl rfl (by decide +kernel) ⟨Nat.le_of_ble_eq_true rfl, Nat.le_of_ble_eq_true rfl⟩) hK hP hD hS hA [20, 21, 22, 23, 24, 25, 26, 27, 28, 1, 2, 3, 4, 5, 6, 7, 8, 9, 10, 11, 12, 13, 14, 15, 16, 17, 18, 19] [0, 29, 30, 31, 32, 33, 34, 35, 36, 37, 38, 39, 40, 41, 42] rfl rfl (by decide) (by decide) (by decide) (hw_recv hK hP 20 rfl rfl) rfl hl.1 rfl (Nat.le_of_ble_eq_true rfl) d_HaulFlows_cost_28 ⟨Nat.le_of_ble_eq_true rfl, Nat.le_of_ble_eq_true rfl⟩ (fun H locs hP hD hS => ?_)
        have hP : va_P (dC, dI) vwCl (w_H cI cJ cZ aH VH0 aS aP aQ aT ++ w_S cI cJ cZ aS VS0 VS1 VS2 NS0 NS1 NS2 LS0 LS1 LS2 LS3 LS4 LS5 LS6 LS7 LS8 IS0 aY ++ w_Y cI cJ cZ aY VY0 LY0 LY1 LY2 IY0 ++ w_P cI cJ cZ aP VP0 VP1 VP2 NP0 LP0 LP1 LP2 LP3 LP4 IP0 IP1 aS ++ w_P cI cJ cZ aQ VQ0 VQ1 VQ2 NQ0 LQ0 LQ1 LQ2 LQ3 LQ4 IQ0 IQ1 aS ++ w_T cI cJ cZ aT VT0 NT0 NT1 LT0 IT0 aS) H := hP.sub [0, 24, 25, 26, 27, 28, 29, 30, 31, 32, 33, 34, 35, 36, 37, 38, 39, 40, 41, 42, 15, 16, 17, 18, 19, 20, 21, 22, 23, 1, 2, 3, 4, 5, 6, 7, 8, 9, 10, 11, 12, 13, 14] rfl
        have hD : va_D A (w_H cI cJ cZ aH VH0 aS aP aQ aT ++ w_S cI cJ cZ aS VS0 VS1 VS2 NS0 NS1 NS2 LS0 LS1 LS2 LS3 LS4 LS5 LS6 LS7 LS8 IS0 aY ++ w_Y cI cJ cZ aY VY0 LY0 LY1 LY2 IY0 ++ w_P cI cJ cZ aP VP0 VP1 VP2 NP0 LP0 LP1 LP2 LP3 LP4 IP0 IP1 aS ++ w_P cI cJ cZ aQ VQ0 VQ1 VQ2 NQ0 LQ0 LQ1 LQ2 LQ3 LQ4 IQ0 IQ1 aS ++ w_T cI cJ cZ aT VT0 NT0 NT1 LT0 IT0 aS) := hD.sub [0, 24, 25, 26, 27, 28, 29, 30, 31, 32, 33, 34, 35, 36, 37, 38, 39, 40, 41, 42, 15, 16, 17, 18, 19, 20, 21, 22, 23, 1, 2, 3, 4, 5, 6, 7, 8, 9, 10, 11, 12, 13, 14] (by decide) rfl
        subst hR
        exact W.lret (v := y28) hx hb hr (fun t ht hW => ⟨⟨_, (), rfl, rfl, by rw [ht]; exact hP, va_K.moved hW.alike hK, hD⟩, hS.F ht⟩) hS.2.2 d_HaulFlows_cost_31
    · replace hR := (if_pos c13).symm.trans hR
      refine lv_ldc2 (v := (-1)) hx hb hown (hG _ m_295) d_HaulFlows_cost_16 ?_
      subst hR
      exact W.lret (v := (-1)) hx hb hr (fun t ht hW => ⟨⟨_, (), rfl, rfl, by rw [ht]; exact hP, va_K.moved hW.alike hK, hD⟩, hS.F ht⟩) hS.2.2 d_HaulFlows_cost_19
def f_HaulFlows_dual (VH0 : Nat) (VS0 : Nat) (VS2 : Nat) (NS0 : Nat → Nat) (NS2 : Nat → Nat) (LS0 : Nat → Int64) (LS4 : Nat → Int64) (LS6 : Nat → Int64) (LS7 : Nat → Int64) (LS8 : Nat → Int64) (VP0 : Nat) (VP1 : Nat) (LP0 : Nat → Int64) (LP1 : Nat → Int64) (LP2 : Nat → Int64) (LP3 : Nat → Int64) (LP4 : Nat → Int64) (IP0 : Nat → Int32) (IP1 : Nat → Int32) (x1 : Int32) (x2 : Int32) (x3 : Int32) : Int64 × (Nat → Int64) × (Nat → Int32) × (Nat → Int32) :=
  if VH0 = 1 then (hh_bind (f_HaulFlows_isBelow x1 (nI 2)) (fun y10 => if y10 = 0 then ((-1), LP4, IP0, IP1) else (hh_bind (f_HaulFlows_isBelow x3 (nI 2)) (fun y18 => if y18 = 0 then ((-1), LP4, IP0, IP1) else (if x1 = 0 then (hh_bind (f_HaulFlows_isBelow x2 (nI VS0)) (fun y50 => if y50 = 0 then ((-1), LP4, IP0, IP1) else (if x1 = (nI 1) then (hh_bind (f_Plan_priceOfOneMore VP0 VP1 LP0 LP1 LP2 LP3 LP4 IP0 IP1 VS2 NS2 LS4 LS8 x2.toNatClampNeg) (fun y70 => hh_bind (f_HaulFlows_partOfChange y70.1 x3) (fun y74 => (y74, y70.2.1, y70.2.2.1, y70.2.2.2)))) else (hh_bind (f_Site_gives NS0 LS0 LS6 LS7 x2.toNatClampNeg) (fun y83 => if y83 = 0 then ((-1), LP4, IP0, IP1) else (hh_bind (f_Plan_priceOfOneLess VP0 VP1 LP0 LP1 LP2 LP3 LP4 IP0 IP1 x2.toNatClampNeg) (fun y102 => hh_bind (f_HaulFlows_partOfChange y102.1 x3) (fun y106 => (y106, y102.2.1, y102.2.2.1, y102.2.2.2))))))))) else (hh_bind (f_HaulFlows_isBelow x2 (nI VS2)) (fun y50 => if y50 = 0 then ((-1), LP4, IP0, IP1) else (if x1 = (nI 1) then (hh_bind (f_Plan_priceOfOneMore VP0 VP1 LP0 LP1 LP2 LP3 LP4 IP0 IP1 VS2 NS2 LS4 LS8 x2.toNatClampNeg) (fun y70 => hh_bind (f_HaulFlows_partOfChange y70.1 x3) (fun y74 => (y74, y70.2.1, y70.2.2.1, y70.2.2.2)))) else (hh_bind (f_Site_gives NS0 LS0 LS6 LS7 x2.toNatClampNeg) (fun y83 => if y83 = 0 then ((-1), LP4, IP0, IP1) else (hh_bind (f_Plan_priceOfOneLess VP0 VP1 LP0 LP1 LP2 LP3 LP4 IP0 IP1 x2.toNatClampNeg) (fun y102 => hh_bind (f_HaulFlows_partOfChange y102.1 x3) (fun y106 => (y106, y102.2.1, y102.2.2.1, y102.2.2.2)))))))))))))) else ((-1), LP4, IP0, IP1)
set_option maxHeartbeats 4000000 in
set_option maxRecDepth 100000 in
theorem c_HaulFlows_dual (l : Launch) (dC : Nat → ClassId) (dI : Nat → Nat → Nat) (cI cJ cZ : ClassId) (sz : Nat) (aH : Nat → Nat) (VH0 : Nat) (aS : Nat → Nat) (VS0 : Nat) (VS1 : Nat) (VS2 : Nat) (NS0 : Nat → Nat) (NS1 : Nat → Nat) (NS2 : Nat → Nat) (LS0 : Nat → Int64) (LS1 : Nat → Int64) (LS2 : Nat → Int64) (LS3 : Nat → Int64) (LS4 : Nat → Int64) (LS5 : Nat → Int64) (LS6 : Nat → Int64) (LS7 : Nat → Int64) (LS8 : Nat → Int64) (IS0 : Nat → Int32) (aY : Nat → Nat) (VY0 : Nat) (LY0 : Nat → Int64) (LY1 : Nat → Int64) (LY2 : Nat → Int64) (IY0 : Nat → Int32) (aP : Nat → Nat) (VP0 : Nat) (VP1 : Nat) (VP2 : Nat) (NP0 : Nat → Nat) (LP0 : Nat → Int64) (LP1 : Nat → Int64) (LP2 : Nat → Int64) (LP3 : Nat → Int64) (LP4 : Nat → Int64) (IP0 : Nat → Int32) (IP1 : Nat → Int32) (aQ : Nat → Nat) (VQ0 : Nat) (VQ1 : Nat) (VQ2 : Nat) (NQ0 : Nat → Nat) (LQ0 : Nat → Int64) (LQ1 : Nat → Int64) (LQ2 : Nat → Int64) (LQ3 : Nat → Int64) (LQ4 : Nat → Int64) (IQ0 : Nat → Int32) (IQ1 : Nat → Int32) (aT : Nat → Nat) (VT0 : Nat) (NT0 : Nat → Nat) (NT1 : Nat → Nat) (LT0 : Nat → Int64) (IT0 : Nat → Int32) (x1 : Int32) (x2 : Int32) (x3 : Int32) (hc8 : VS0 ≤ 8) (hp4 : VS1 ≤ 4) (hf8 : VS2 ≤ 8) (hy6 : VY0 ≤ 6) (hk4 : ∀ i, NS0 i < 4) (hcw : ∀ i, NS1 i < 12) (hfw : ∀ i, NS2 i < 12) (hq : ∀ i, NP0 i < 21) (htq : ∀ i, NT1 i < 34) (hst : VH0 ≤ 2) (hpl : VH0 = 1 → VP0 = VS0 + VS1 ∧ VP1 = VS2) (hsf : VT0 ≤ 8) : hh_Cl l y_HaulFlows_dual u_HaulFlows_dual ({ frames := 4, cells := 0, slots := 0, locals := 95 }) (dC, dI) vwCl [(cI, .int), (cJ, .long), (cZ, .boolean)] (w_H cI cJ cZ aH VH0 aS aP aQ aT ++ w_S cI cJ cZ aS VS0 VS1 VS2 NS0 NS1 NS2 LS0 LS1 LS2 LS3 LS4 LS5 LS6 LS7 LS8 IS0 aY ++ w_Y cI cJ cZ aY VY0 LY0 LY1 LY2 IY0 ++ w_P cI cJ cZ aP VP0 VP1 VP2 NP0 LP0 LP1 LP2 LP3 LP4 IP0 IP1 aS ++ w_P cI cJ cZ aQ VQ0 VQ1 VQ2 NQ0 LQ0 LQ1 LQ2 LQ3 LQ4 IQ0 IQ1 aS ++ w_T cI cJ cZ aT VT0 NT0 NT1 LT0 IT0 aS) sz [.ref (aH 0), .int x1, .int x2, .int x3] ((f_HaulFlows_dual VH0 VS0 VS2 NS0 NS2 LS0 LS4 LS6 LS7 LS8 VP0 VP1 LP0 LP1 LP2 LP3 LP4 IP0 IP1 x1 x2 x3).1) (w_H cI cJ cZ aH VH0 aS aP aQ aT ++ w_S cI cJ cZ aS VS0 VS1 VS2 NS0 NS1 NS2 LS0 LS1 LS2 LS3 LS4 LS5 LS6 LS7 LS8 IS0 aY ++ w_Y cI cJ cZ aY VY0 LY0 LY1 LY2 IY0 ++ w_P cI cJ cZ aP VP0 VP1 VP2 NP0 LP0 LP1 LP2 LP3 ((f_HaulFlows_dual VH0 VS0 VS2 NS0 NS2 LS0 LS4 LS6 LS7 LS8 VP0 VP1 LP0 LP1 LP2 LP3 LP4 IP0 IP1 x1 x2 x3).2.1) ((f_HaulFlows_dual VH0 VS0 VS2 NS0 NS2 LS0 LS4 LS6 LS7 LS8 VP0 VP1 LP0 LP1 LP2 LP3 LP4 IP0 IP1 x1 x2 x3).2.2.1) ((f_HaulFlows_dual VH0 VS0 VS2 NS0 NS2 LS0 LS4 LS6 LS7 LS8 VP0 VP1 LP0 LP1 LP2 LP3 LP4 IP0 IP1 x1 x2 x3).2.2.2) aS ++ w_P cI cJ cZ aQ VQ0 VQ1 VQ2 NQ0 LQ0 LQ1 LQ2 LQ3 LQ4 IQ0 IQ1 aS ++ w_T cI cJ cZ aT VT0 NT0 NT1 LT0 IT0 aS) 0 0 := by
  unfold hh_Cl
  refine Met.ofW (cc := b_HaulFlows_dual) (maxL := 4) (ret := (some .long)) (by decide) rfl ?_
  intro p e s m args below meth c s₁ B hml hv
  obtain ⟨rfl, hsz, hP, hK, hD0⟩ := hv
  have hx := B.exec
  have hb := B.bytes
  have hr := B.returns
  have hts := atoms_spec (ws := u_HaulFlows_dual) B.pre
  have hG : ∀ w ∈ wG, w.before ([.ref (aH 0), .int x1, .int x2, .int x3]).toArray s = true := fun w h => hts w (List.mem_cons_of_mem _ h)
  have hown : s.vm.findClass R_HaulFlows = some m.cls := findClass_of_methodNamed B.named
  have hlocks := B.notSynchronized
  subst hsz
  have hD := hD0.self (sz := s.heap.size)
  generalize hAe : va_A (w_H cI cJ cZ aH VH0 aS aP aQ aT ++ w_S cI cJ cZ aS VS0 VS1 VS2 NS0 NS1 NS2 LS0 LS1 LS2 LS3 LS4 LS5 LS6 LS7 LS8 IS0 aY ++ w_Y cI cJ cZ aY VY0 LY0 LY1 LY2 IY0 ++ w_P cI cJ cZ aP VP0 VP1 VP2 NP0 LP0 LP1 LP2 LP3 LP4 IP0 IP1 aS ++ w_P cI cJ cZ aQ VQ0 VQ1 VQ2 NQ0 LQ0 LQ1 LQ2 LQ3 LQ4 IQ0 IQ1 aS ++ w_T cI cJ cZ aT VT0 NT0 NT1 LT0 IT0 aS) s.heap.size = A at hD ⊢
  have hA : ∀ q : Nat, s.heap.size ≤ q → A q := fun q h => by rw [← hAe]; exact Or.inr h
  have hS : va_S A s.heap s.heap [] := va_S.rf
  have hl := lv_entry ([.ref (aH 0), .int x1, .int x2, .int x3]) (n := 4) (Nat.le_of_ble_eq_true rfl)
  rw [lg_entry_eq]
  generalize (lg_sl ([.ref (aH 0), .int x1, .int x2, .int x3]) ++ List.replicate (4 - (lg_sl ([.ref (aH 0), .int x1, .int x2, .int x3])).length) Slot.unset).toArray = ls at hl ⊢
  have hl : lv_has ls 4 [(0, .ref (aH 0)), (1, .int x1), (2, .int x2), (3, .int x3)] := hl
  generalize hR : f_HaulFlows_dual VH0 VS0 VS2 NS0 NS2 LS0 LS4 LS6 LS7 LS8 VP0 VP1 LP0 LP1 LP2 LP3 LP4 IP0 IP1 x1 x2 x3 = r0
  obtain ⟨H, locs, hHe, hle⟩ : ∃ (H : Heap) (locs : List Loc), s.heap = H ∧ [] = locs := ⟨_, _, rfl, rfl⟩
  have hP : va_P (dC, dI) vwCl (w_H cI cJ cZ aH VH0 aS aP aQ aT ++ w_S cI cJ cZ aS VS0 VS1 VS2 NS0 NS1 NS2 LS0 LS1 LS2 LS3 LS4 LS5 LS6 LS7 LS8 IS0 aY ++ w_Y cI cJ cZ aY VY0 LY0 LY1 LY2 IY0 ++ w_P cI cJ cZ aP VP0 VP1 VP2 NP0 LP0 LP1 LP2 LP3 LP4 IP0 IP1 aS ++ w_P cI cJ cZ aQ VQ0 VQ1 VQ2 NQ0 LQ0 LQ1 LQ2 LQ3 LQ4 IQ0 IQ1 aS ++ w_T cI cJ cZ aT VT0 NT0 NT1 LT0 IT0 aS) H := by rw [← hHe]; exact hP
  have hS : va_S A s.heap H locs := by rw [← hHe, ← hle]; exact hS
  refine hw_start hHe hle ?_
  unfold f_HaulFlows_dual at hR
  refine lv_aload_n hx hb d_HaulFlows_dual_0 rfl (lv_at hl 0 rfl) ?_
  refine va_get (D := (dC, dI)) (ci := 4) (v := .int (nI VH0)) (C := R_HaulFlows) (T := T_HaulFlows) (N := 5) hx hb hG in_HaulFlows hown hK hP 0 rfl rfl 4 (by decide) (hG _ m_200) (fun _ h9 => h9) rfl d_HaulFlows_dual_1 ?_
  refine lv_iconst (v := nI 1) hx hb d_HaulFlows_dual_4 (by decide) ?_
  refine hw_icmp_ne (tgt := 24) hx hb d_HaulFlows_dual_5 (by decide) (by omega) (by omega) (fun c5 => ?_) (fun c5 => ?_)
  · replace hR := (if_neg c5).symm.trans hR
    refine lv_ldc2 (v := (-1)) hx hb hown (hG _ m_295) d_HaulFlows_dual_24 ?_
    subst hR
    exact W.lret (v := (-1)) hx hb hr (fun t ht hW => ⟨⟨_, (), rfl, rfl, by rw [ht]; exact hP, va_K.moved hW.alike hK, hD⟩, hS.F ht⟩) hS.2.2 d_HaulFlows_dual_27
  · replace hR := (if_pos c5).symm.trans hR
    obtain ⟨hpl0, hpl1⟩ := hpl c5
    refine lv_iload_n hx hb d_HaulFlows_dual_8 rfl (lv_at hl 1 rfl) ?_
    refine lv_iconst (v := nI 2) hx hb d_HaulFlows_dual_9 (by decide) ?_
    obtain ⟨y10, hy10, hR⟩ := hw_bind hR
    have hM := c_HaulFlows_isBelow l dC dI cI cJ cZ H.size x1 (nI 2)
    rw [hy10] at hM
    refine hw_callSi (As := [.int x1, .int (nI 2)]) (rest := []) (wr := w_H cI cJ cZ aH VH0 aS aP aQ aT ++ w_S cI cJ cZ aS VS0 VS1 VS2 NS0 NS1 NS2 LS0 LS1 LS2 LS3 LS4 LS5 LS6 LS7 LS8 IS0 aY ++ w_Y cI cJ cZ aY VY0 LY0 LY1 LY2 IY0 ++ w_P cI cJ cZ aP VP0 VP1 VP2 NP0 LP0 LP1 LP2 LP3 LP4 IP0 IP1 aS ++ w_P cI cJ cZ aQ VQ0 VQ1 VQ2 NQ0 LQ0 LQ1 LQ2 LQ3 LQ4 IQ0 IQ1 aS ++ w_T cI cJ cZ aT VT0 NT0 NT1 LT0 IT0 aS) ⟨hx, hb, hml, hown, hG⟩ hM (hw_cwS 2 hG m_220 m_221 m_1 m_222 rfl rfl (by decide +kernel) ⟨Nat.le_of_ble_eq_true rfl, Nat.le_of_ble_eq_true rfl⟩) hK hP hD hS hA [] [0, 1, 2, 3, 4, 5, 6, 7, 8, 9, 10, 11, 12, 13, 14, 15, 16, 17, 18, 19, 20, 21, 22, 23, 24, 25, 26, 27, 28, 29, 30, 31, 32, 33, 34, 35, 36, 37, 38, 39, 40, 41, 42] rfl rfl (by decide) (by decide) (by decide) rfl hl.1 rfl (Nat.le_of_ble_eq_true rfl) d_HaulFlows_dual_10 ⟨Nat.le_of_ble_eq_true rfl, Nat.le_of_ble_eq_true rfl⟩ (fun H locs hP hD hS => ?_)
    have hP : va_P (dC, dI) vwCl (w_H cI cJ cZ aH VH0 aS aP aQ aT ++ w_S cI cJ cZ aS VS0 VS1 VS2 NS0 NS1 NS2 LS0 LS1 LS2 LS3 LS4 LS5 LS6 LS7 LS8 IS0 aY ++ w_Y cI cJ cZ aY VY0 LY0 LY1 LY2 IY0 ++ w_P cI cJ cZ aP VP0 VP1 VP2 NP0 LP0 LP1 LP2 LP3 LP4 IP0 IP1 aS ++ w_P cI cJ cZ aQ VQ0 VQ1 VQ2 NQ0 LQ0 LQ1 LQ2 LQ3 LQ4 IQ0 IQ1 aS ++ w_T cI cJ cZ aT VT0 NT0 NT1 LT0 IT0 aS) H := hP
    have hD : va_D A (w_H cI cJ cZ aH VH0 aS aP aQ aT ++ w_S cI cJ cZ aS VS0 VS1 VS2 NS0 NS1 NS2 LS0 LS1 LS2 LS3 LS4 LS5 LS6 LS7 LS8 IS0 aY ++ w_Y cI cJ cZ aY VY0 LY0 LY1 LY2 IY0 ++ w_P cI cJ cZ aP VP0 VP1 VP2 NP0 LP0 LP1 LP2 LP3 LP4 IP0 IP1 aS ++ w_P cI cJ cZ aQ VQ0 VQ1 VQ2 NQ0 LQ0 LQ1 LQ2 LQ3 LQ4 IQ0 IQ1 aS ++ w_T cI cJ cZ aT VT0 NT0 NT1 LT0 IT0 aS) := hD
    have hbl10 := hp_below (x := x1) (n := 2) (by omega)
    rw [hy10] at hbl10
    refine lv_if_eq (tgt := 24) hx hb d_HaulFlows_dual_13 (by decide) (fun c13 => ?_) (fun c13 => ?_)
    · replace hR := (if_pos c13).symm.trans hR
      refine lv_ldc2 (v := (-1)) hx hb hown (hG _ m_295) d_HaulFlows_dual_24 ?_
      subst hR
      exact W.lret (v := (-1)) hx hb hr (fun t ht hW => ⟨⟨_, (), rfl, rfl, by rw [ht]; exact hP, va_K.moved hW.alike hK, hD⟩, hS.F ht⟩) hS.2.2 d_HaulFlows_dual_27
    · replace hR := (if_neg c13).symm.trans hR
      refine lv_iload_n hx hb d_HaulFlows_dual_16 rfl (lv_at hl 3 rfl) ?_
      refine lv_iconst (v := nI 2) hx hb d_HaulFlows_dual_17 (by decide) ?_
      obtain ⟨y18, hy18, hR⟩ := hw_bind hR
      have hM := c_HaulFlows_isBelow l dC dI cI cJ cZ H.size x3 (nI 2)
      rw [hy18] at hM
      refine hw_callSi (As := [.int x3, .int (nI 2)]) (rest := []) (wr := w_H cI cJ cZ aH VH0 aS aP aQ aT ++ w_S cI cJ cZ aS VS0 VS1 VS2 NS0 NS1 NS2 LS0 LS1 LS2 LS3 LS4 LS5 LS6 LS7 LS8 IS0 aY ++ w_Y cI cJ cZ aY VY0 LY0 LY1 LY2 IY0 ++ w_P cI cJ cZ aP VP0 VP1 VP2 NP0 LP0 LP1 LP2 LP3 LP4 IP0 IP1 aS ++ w_P cI cJ cZ aQ VQ0 VQ1 VQ2 NQ0 LQ0 LQ1 LQ2 LQ3 LQ4 IQ0 IQ1 aS ++ w_T cI cJ cZ aT VT0 NT0 NT1 LT0 IT0 aS) ⟨hx, hb, hml, hown, hG⟩ hM (hw_cwS 2 hG m_220 m_221 m_1 m_222 rfl rfl (by decide +kernel) ⟨Nat.le_of_ble_eq_true rfl, Nat.le_of_ble_eq_true rfl⟩) hK hP hD hS hA [] [0, 1, 2, 3, 4, 5, 6, 7, 8, 9, 10, 11, 12, 13, 14, 15, 16, 17, 18, 19, 20, 21, 22, 23, 24, 25, 26, 27, 28, 29, 30, 31, 32, 33, 34, 35, 36, 37, 38, 39, 40, 41, 42] rfl rfl (by decide) (by decide) (by decide) rfl hl.1 rfl (Nat.le_of_ble_eq_true rfl) d_HaulFlows_dual_18 ⟨Nat.le_of_ble_eq_true rfl, Nat.le_of_ble_eq_true rfl⟩ (fun H locs hP hD hS => ?_)
      have hP : va_P (dC, dI) vwCl (w_H cI cJ cZ aH VH0 aS aP aQ aT ++ w_S cI cJ cZ aS VS0 VS1 VS2 NS0 NS1 NS2 LS0 LS1 LS2 LS3 LS4 LS5 LS6 LS7 LS8 IS0 aY ++ w_Y cI cJ cZ aY VY0 LY0 LY1 LY2 IY0 ++ w_P cI cJ cZ aP VP0 VP1 VP2 NP0 LP0 LP1 LP2 LP3 LP4 IP0 IP1 aS ++ w_P cI cJ cZ aQ VQ0 VQ1 VQ2 NQ0 LQ0 LQ1 LQ2 LQ3 LQ4 IQ0 IQ1 aS ++ w_T cI cJ cZ aT VT0 NT0 NT1 LT0 IT0 aS) H := hP
      have hD : va_D A (w_H cI cJ cZ aH VH0 aS aP aQ aT ++ w_S cI cJ cZ aS VS0 VS1 VS2 NS0 NS1 NS2 LS0 LS1 LS2 LS3 LS4 LS5 LS6 LS7 LS8 IS0 aY ++ w_Y cI cJ cZ aY VY0 LY0 LY1 LY2 IY0 ++ w_P cI cJ cZ aP VP0 VP1 VP2 NP0 LP0 LP1 LP2 LP3 LP4 IP0 IP1 aS ++ w_P cI cJ cZ aQ VQ0 VQ1 VQ2 NQ0 LQ0 LQ1 LQ2 LQ3 LQ4 IQ0 IQ1 aS ++ w_T cI cJ cZ aT VT0 NT0 NT1 LT0 IT0 aS) := hD
      have hbl18 := hp_below (x := x3) (n := 2) (by omega)
      rw [hy18] at hbl18
      refine lv_if_ne (tgt := 28) hx hb d_HaulFlows_dual_21 (by decide) (fun c21 => ?_) (fun c21 => ?_)
      · replace hR := (if_neg c21).symm.trans hR
        refine lv_iload_n hx hb d_HaulFlows_dual_28 rfl (lv_at hl 2 rfl) ?_
        refine lv_iload_n hx hb d_HaulFlows_dual_29 rfl (lv_at hl 1 rfl) ?_
        refine lv_if_ne (tgt := 43) hx hb d_HaulFlows_dual_30 (by decide) (fun c30 => ?_) (fun c30 => ?_)
        · replace hR := (if_neg c30).symm.trans hR
          refine lv_aload_n hx hb d_HaulFlows_dual_43 rfl (lv_at hl 0 rfl) ?_
          refine va_get (D := (dC, dI)) (ci := 4) (v := .ref (aS 0)) (C := R_HaulFlows) (T := T_HaulFlows) (N := 5) hx hb hG in_HaulFlows hown hK hP 0 rfl rfl 0 (by decide) (hG _ m_196) (fun _ h9 => h9) rfl d_HaulFlows_dual_44 ?_
          refine va_get (D := (dC, dI)) (ci := 2) (v := .int (nI VS2)) (C := R_Site) (T := T_Site) (N := 17) hx hb hG in_Site hown hK hP 1 rfl rfl 2 (by decide) (hG _ m_62) (fun _ h9 => h9) rfl d_HaulFlows_dual_47 ?_
          obtain ⟨y50, hy50, hR⟩ := hw_bind hR
          have hM := c_HaulFlows_isBelow l dC dI cI cJ cZ H.size x2 (nI VS2)
          rw [hy50] at hM
          refine hw_callSi (As := [.int x2, .int (nI VS2)]) (rest := []) (wr := w_H cI cJ cZ aH VH0 aS aP aQ aT ++ w_S cI cJ cZ aS VS0 VS1 VS2 NS0 NS1 NS2 LS0 LS1 LS2 LS3 LS4 LS5 LS6 LS7 LS8 IS0 aY ++ w_Y cI cJ cZ aY VY0 LY0 LY1 LY2 IY0 ++ w_P cI cJ cZ aP VP0 VP1 VP2 NP0 LP0 LP1 LP2 LP3 LP4 IP0 IP1 aS ++ w_P cI cJ cZ aQ VQ0 VQ1 VQ2 NQ0 LQ0 LQ1 LQ2 LQ3 LQ4 IQ0 IQ1 aS ++ w_T cI cJ cZ aT VT0 NT0 NT1 LT0 IT0 aS) ⟨hx, hb, hml, hown, hG⟩ hM (hw_cwS 2 hG m_220 m_221 m_1 m_222 rfl rfl (by decide +kernel) ⟨Nat.le_of_ble_eq_true rfl, Nat.le_of_ble_eq_true rfl⟩) hK hP hD hS hA [] [0, 1, 2, 3, 4, 5, 6, 7, 8, 9, 10, 11, 12, 13, 14, 15, 16, 17, 18, 19, 20, 21, 22, 23, 24, 25, 26, 27, 28, 29, 30, 31, 32, 33, 34, 35, 36, 37, 38, 39, 40, 41, 42] rfl rfl (by decide) (by decide) (by decide) rfl hl.1 rfl (Nat.le_of_ble_eq_true rfl) d_HaulFlows_dual_50 ⟨Nat.le_of_ble_eq_true rfl, Nat.le_of_ble_eq_true rfl⟩ (fun H locs hP hD hS => ?_)
          have hP : va_P (dC, dI) vwCl (w_H cI cJ cZ aH VH0 aS aP aQ aT ++ w_S cI cJ cZ aS VS0 VS1 VS2 NS0 NS1 NS2 LS0 LS1 LS2 LS3 LS4 LS5 LS6 LS7 LS8 IS0 aY ++ w_Y cI cJ cZ aY VY0 LY0 LY1 LY2 IY0 ++ w_P cI cJ cZ aP VP0 VP1 VP2 NP0 LP0 LP1 LP2 LP3 LP4 IP0 IP1 aS ++ w_P cI cJ cZ aQ VQ0 VQ1 VQ2 NQ0 LQ0 LQ1 LQ2 LQ3 LQ4 IQ0 IQ1 aS ++ w_T cI cJ cZ aT VT0 NT0 NT1 LT0 IT0 aS) H := hP
          have hD : va_D A (w_H cI cJ cZ aH VH0 aS aP aQ aT ++ w_S cI cJ cZ aS VS0 VS1 VS2 NS0 NS1 NS2 LS0 LS1 LS2 LS3 LS4 LS5 LS6 LS7 LS8 IS0 aY ++ w_Y cI cJ cZ aY VY0 LY0 LY1 LY2 IY0 ++ w_P cI cJ cZ aP VP0 VP1 VP2 NP0 LP0 LP1 LP2 LP3 LP4 IP0 IP1 aS ++ w_P cI cJ cZ aQ VQ0 VQ1 VQ2 NQ0 LQ0 LQ1 LQ2 LQ3 LQ4 IQ0 IQ1 aS ++ w_T cI cJ cZ aT VT0 NT0 NT1 LT0 IT0 aS) := hD
          have hbl50 := hp_below (x := x2) (n := VS2) (by omega)
          rw [hy50] at hbl50
          refine lv_if_ne (tgt := 60) hx hb d_HaulFlows_dual_53 (by decide) (fun c53 => ?_) (fun c53 => ?_)
          · replace hR := (if_neg c53).symm.trans hR
            obtain ⟨hna2, hnb2⟩ := hbl50 c53
            have en60_2 : nI (x2.toNatClampNeg) = x2 := hw_nat hna2
            have hl : lv_has ls 4 [(0, .ref (aH 0)), (1, .int x1), (2, .int (nI x2.toNatClampNeg)), (3, .int x3)] := by rw [en60_2]; exact hl
            refine lv_iload_n hx hb d_HaulFlows_dual_60 rfl (lv_at hl 1 rfl) ?_
            refine lv_iconst (v := nI 1) hx hb d_HaulFlows_dual_61 (by decide) ?_
            refine lv_icmp_ne (tgt := 78) hx hb d_HaulFlows_dual_62 (by decide) (fun c62 => ?_) (fun c62 => ?_)
            · replace hR := (if_neg c62).symm.trans hR
              refine lv_aload_n hx hb d_HaulFlows_dual_78 rfl (lv_at hl 0 rfl) ?_
              refine va_get (D := (dC, dI)) (ci := 4) (v := .ref (aS 0)) (C := R_HaulFlows) (T := T_HaulFlows) (N := 5) hx hb hG in_HaulFlows hown hK hP 0 rfl rfl 0 (by decide) (hG _ m_196) (fun _ h9 => h9) rfl d_HaulFlows_dual_79 ?_
              refine lv_iload_n hx hb d_HaulFlows_dual_82 rfl (lv_at hl 2 rfl) ?_
              obtain ⟨y83, hy83, hR⟩ := hw_bind hR
              have hM := c_Site_gives l dC dI cI cJ cZ H.size aS VS0 VS1 VS2 NS0 NS1 NS2 LS0 LS1 LS2 LS3 LS4 LS5 LS6 LS7 LS8 IS0 aY VY0 LY0 LY1 LY2 IY0 x2.toNatClampNeg (by first | assumption | omega) (by first | assumption | omega)
              rw [hy83] at hM
              refine hw_callVl (As := [.int (nI x2.toNatClampNeg)]) (rest := []) (wr := w_H cI cJ cZ aH VH0 aS aP aQ aT ++ w_P cI cJ cZ aP VP0 VP1 VP2 NP0 LP0 LP1 LP2 LP3 LP4 IP0 IP1 aS ++ w_P cI cJ cZ aQ VQ0 VQ1 VQ2 NQ0 LQ0 LQ1 LQ2 LQ3 LQ4 IQ0 IQ1 aS ++ w_T cI cJ cZ aT VT0 NT0 NT1 LT0 IT0 aS) ⟨hx, hb, hml, hown, hG⟩ hM (hw_cwV 1 hG m_356 m_357 m_358 m_2 m_359 rfl rfl (by decide +kernel) ⟨Nat.le_of_ble_eq_true rfl, Nat.le_of_ble_eq_true rfl⟩) hK hP hD hS hA [1, 2, 3, 4, 5, 6, 7, 8, 9, 10, 11, 12, 13, 14, 15, 16, 17, 18, 19] [0, 20, 21, 22, 23, 24, 25, 26, 27, 28, 29, 30, 31, 32, 33, 34, 35, 36, 37, 38, 39, 40, 41, 42] rfl rfl (by decide) (by decide) (by decide) (hw_recv hK hP 1 rfl rfl) rfl hl.1 rfl (Nat.le_of_ble_eq_true rfl) d_HaulFlows_dual_83 ⟨Nat.le_of_ble_eq_true rfl, Nat.le_of_ble_eq_true rfl⟩ (fun H locs hP hD hS => ?_)
              have hP : va_P (dC, dI) vwCl (w_H cI cJ cZ aH VH0 aS aP aQ aT ++ w_S cI cJ cZ aS VS0 VS1 VS2 NS0 NS1 NS2 LS0 LS1 LS2 LS3 LS4 LS5 LS6 LS7 LS8 IS0 aY ++ w_Y cI cJ cZ aY VY0 LY0 LY1 LY2 IY0 ++ w_P cI cJ cZ aP VP0 VP1 VP2 NP0 LP0 LP1 LP2 LP3 LP4 IP0 IP1 aS ++ w_P cI cJ cZ aQ VQ0 VQ1 VQ2 NQ0 LQ0 LQ1 LQ2 LQ3 LQ4 IQ0 IQ1 aS ++ w_T cI cJ cZ aT VT0 NT0 NT1 LT0 IT0 aS) H := hP.sub [0, 24, 25, 26, 27, 28, 29, 30, 31, 32, 33, 34, 35, 36, 37, 38, 39, 40, 41, 42, 1, 2, 3, 4, 5, 6, 7, 8, 9, 10, 11, 12, 13, 14, 15, 16, 17, 18, 19, 20, 21, 22, 23] rfl
              have hD : va_D A (w_H cI cJ cZ aH VH0 aS aP aQ aT ++ w_S cI cJ cZ aS VS0 VS1 VS2 NS0 NS1 NS2 LS0 LS1 LS2 LS3 LS4 LS5 LS6 LS7 LS8 IS0 aY ++ w_Y cI cJ cZ aY VY0 LY0 LY1 LY2 IY0 ++ w_P cI cJ cZ aP VP0 VP1 VP2 NP0 LP0 LP1 LP2 LP3 LP4 IP0 IP1 aS ++ w_P cI cJ cZ aQ VQ0 VQ1 VQ2 NQ0 LQ0 LQ1 LQ2 LQ3 LQ4 IQ0 IQ1 aS ++ w_T cI cJ cZ aT VT0 NT0 NT1 LT0 IT0 aS) := hD.sub [0, 24, 25, 26, 27, 28, 29, 30, 31, 32, 33, 34, 35, 36, 37, 38, 39, 40, 41, 42, 1, 2, 3, 4, 5, 6, 7, 8, 9, 10, 11, 12, 13, 14, 15, 16, 17, 18, 19, 20, 21, 22, 23] (by decide) rfl
              refine lv_lconst (v := 0) hx hb d_HaulFlows_dual_86 (by decide) ?_
              refine hw_lcmp_ne (tgt := 97) hx hb d_HaulFlows_dual_87 d_HaulFlows_dual_88 (by decide) (fun c87 => ?_) (fun c87 => ?_)
              · replace hR := (if_neg c87).symm.trans hR
                refine lv_aload_n hx hb d_HaulFlows_dual_97 rfl (lv_at hl 0 rfl) ?_
                refine va_get (D := (dC, dI)) (ci := 4) (v := .ref (aP 0)) (C := R_HaulFlows) (T := T_HaulFlows) (N := 5) hx hb hG in_HaulFlows hown hK hP 0 rfl rfl 1 (by decide) (hG _ m_197) (fun _ h9 => h9) rfl d_HaulFlows_dual_98 ?_
                refine lv_iload_n hx hb d_HaulFlows_dual_101 rfl (lv_at hl 2 rfl) ?_
                obtain ⟨y102, hy102, hR⟩ := hw_bind hR
                have hM := c_Plan_priceOfOneLess l dC dI cI cJ cZ H.size aP VP0 VP1 VP2 NP0 LP0 LP1 LP2 LP3 LP4 IP0 IP1 aS VS0 VS1 VS2 NS0 NS1 NS2 LS0 LS1 LS2 LS3 LS4 LS5 LS6 LS7 LS8 IS0 aY VY0 LY0 LY1 LY2 IY0 x2.toNatClampNeg (by first | assumption | omega) (by first | assumption | omega) (by first | assumption | omega)
                rw [hy102] at hM
                refine hw_callVl (As := [.int (nI x2.toNatClampNeg)]) (rest := []) (wr := w_H cI cJ cZ aH VH0 aS aP aQ aT ++ w_P cI cJ cZ aQ VQ0 VQ1 VQ2 NQ0 LQ0 LQ1 LQ2 LQ3 LQ4 IQ0 IQ1 aS ++ w_T cI cJ cZ aT VT0 NT0 NT1 LT0 IT0 aS) ⟨hx, hb, hml, hown, hG⟩ hM (hw_cwV 1 hG m_360 m_361 m_362 m_5 m_363 rfl rfl (by decide +kernel) ⟨Nat.le_of_ble_eq_true rfl, Nat.le_of_ble_eq_true rfl⟩) hK hP hD hS hA [20, 21, 22, 23, 24, 25, 26, 27, 28, 1, 2, 3, 4, 5, 6, 7, 8, 9, 10, 11, 12, 13, 14, 15, 16, 17, 18, 19] [0, 29, 30, 31, 32, 33, 34, 35, 36, 37, 38, 39, 40, 41, 42] rfl rfl (by decide) (by decide) (by decide) (hw_recv hK hP 20 rfl rfl) rfl hl.1 rfl (Nat.le_of_ble_eq_true rfl) d_HaulFlows_dual_102 ⟨Nat.le_of_ble_eq_true rfl, Nat.le_of_ble_eq_true rfl⟩ (fun H locs hP hD hS => ?_)
                have hP : va_P (dC, dI) vwCl (w_H cI cJ cZ aH VH0 aS aP aQ aT ++ w_S cI cJ cZ aS VS0 VS1 VS2 NS0 NS1 NS2 LS0 LS1 LS2 LS3 LS4 LS5 LS6 LS7 LS8 IS0 aY ++ w_Y cI cJ cZ aY VY0 LY0 LY1 LY2 IY0 ++ w_P cI cJ cZ aP VP0 VP1 VP2 NP0 LP0 LP1 LP2 LP3 y102.2.1 y102.2.2.1 y102.2.2.2 aS ++ w_P cI cJ cZ aQ VQ0 VQ1 VQ2 NQ0 LQ0 LQ1 LQ2 LQ3 LQ4 IQ0 IQ1 aS ++ w_T cI cJ cZ aT VT0 NT0 NT1 LT0 IT0 aS) H := hP.sub [0, 24, 25, 26, 27, 28, 29, 30, 31, 32, 33, 34, 35, 36, 37, 38, 39, 40, 41, 42, 15, 16, 17, 18, 19, 20, 21, 22, 23, 1, 2, 3, 4, 5, 6, 7, 8, 9, 10, 11, 12, 13, 14] rfl
                have hD : va_D A (w_H cI cJ cZ aH VH0 aS aP aQ aT ++ w_S cI cJ cZ aS VS0 VS1 VS2 NS0 NS1 NS2 LS0 LS1 LS2 LS3 LS4 LS5 LS6 LS7 LS8 IS0 aY ++ w_Y cI cJ cZ aY VY0 LY0 LY1 LY2 IY0 ++ w_P cI cJ cZ aP VP0 VP1 VP2 NP0 LP0 LP1 LP2 LP3 y102.2.1 y102.2.2.1 y102.2.2.2 aS ++ w_P cI cJ cZ aQ VQ0 VQ1 VQ2 NQ0 LQ0 LQ1 LQ2 LQ3 LQ4 IQ0 IQ1 aS ++ w_T cI cJ cZ aT VT0 NT0 NT1 LT0 IT0 aS) := hD.sub [0, 24, 25, 26, 27, 28, 29, 30, 31, 32, 33, 34, 35, 36, 37, 38, 39, 40, 41, 42, 15, 16, 17, 18, 19, 20, 21, 22, 23, 1, 2, 3, 4, 5, 6, 7, 8, 9, 10, 11, 12, 13, 14] (by decide) rfl
                refine lv_iload_n hx hb d_HaulFlows_dual_105 rfl (lv_at hl 3 rfl) ?_
                obtain ⟨y106, hy106, hR⟩ := hw_bind hR
                have hM := c_HaulFlows_partOfChange l dC dI cI cJ cZ H.size y102.1 x3
                rw [hy106] at hM
                refine hw_callSl (As := [.long y102.1, .int x3]) (rest := []) (wr := w_H cI cJ cZ aH VH0 aS aP aQ aT ++ w_S cI cJ cZ aS VS0 VS1 VS2 NS0 NS1 NS2 LS0 LS1 LS2 LS3 LS4 LS5 LS6 LS7 LS8 IS0 aY ++ w_Y cI cJ cZ aY VY0 LY0 LY1 LY2 IY0 ++ w_P cI cJ cZ aP VP0 VP1 VP2 NP0 LP0 LP1 LP2 LP3 y102.2.1 y102.2.2.1 y102.2.2.2 aS ++ w_P cI cJ cZ aQ VQ0 VQ1 VQ2 NQ0 LQ0 LQ1 LQ2 LQ3 LQ4 IQ0 IQ1 aS ++ w_T cI cJ cZ aT VT0 NT0 NT1 LT0 IT0 aS) ⟨hx, hb, hml, hown, hG⟩ hM (hw_cwS 2 hG m_353 m_354 m_1 m_355 rfl rfl (by decide +kernel) ⟨Nat.le_of_ble_eq_true rfl, Nat.le_of_ble_eq_true rfl⟩) hK hP hD hS hA [] [0, 1, 2, 3, 4, 5, 6, 7, 8, 9, 10, 11, 12, 13, 14, 15, 16, 17, 18, 19, 20, 21, 22, 23, 24, 25, 26, 27, 28, 29, 30, 31, 32, 33, 34, 35, 36, 37, 38, 39, 40, 41, 42] rfl rfl (by decide) (by decide) (by decide) rfl hl.1 rfl (Nat.le_of_ble_eq_true rfl) d_HaulFlows_dual_106 ⟨Nat.le_of_ble_eq_true rfl, Nat.le_of_ble_eq_true rfl⟩ (fun H locs hP hD hS => ?_)
                have hP : va_P (dC, dI) vwCl (w_H cI cJ cZ aH VH0 aS aP aQ aT ++ w_S cI cJ cZ aS VS0 VS1 VS2 NS0 NS1 NS2 LS0 LS1 LS2 LS3 LS4 LS5 LS6 LS7 LS8 IS0 aY ++ w_Y cI cJ cZ aY VY0 LY0 LY1 LY2 IY0 ++ w_P cI cJ cZ aP VP0 VP1 VP2 NP0 LP0 LP1 LP2 LP3 y102.2.1 y102.2.2.1 y102.2.2.2 aS ++ w_P cI cJ cZ aQ VQ0 VQ1 VQ2 NQ0 LQ0 LQ1 LQ2 LQ3 LQ4 IQ0 IQ1 aS ++ w_T cI cJ cZ aT VT0 NT0 NT1 LT0 IT0 aS) H := hP
                have hD : va_D A (w_H cI cJ cZ aH VH0 aS aP aQ aT ++ w_S cI cJ cZ aS VS0 VS1 VS2 NS0 NS1 NS2 LS0 LS1 LS2 LS3 LS4 LS5 LS6 LS7 LS8 IS0 aY ++ w_Y cI cJ cZ aY VY0 LY0 LY1 LY2 IY0 ++ w_P cI cJ cZ aP VP0 VP1 VP2 NP0 LP0 LP1 LP2 LP3 y102.2.1 y102.2.2.1 y102.2.2.2 aS ++ w_P cI cJ cZ aQ VQ0 VQ1 VQ2 NQ0 LQ0 LQ1 LQ2 LQ3 LQ4 IQ0 IQ1 aS ++ w_T cI cJ cZ aT VT0 NT0 NT1 LT0 IT0 aS) := hD
                subst hR
                exact W.lret (v := y106) hx hb hr (fun t ht hW => ⟨⟨_, (), rfl, rfl, by rw [ht]; exact hP, va_K.moved hW.alike hK, hD⟩, hS.F ht⟩) hS.2.2 d_HaulFlows_dual_109
              · replace hR := (if_pos c87).symm.trans hR
                refine lv_ldc2 (v := (-1)) hx hb hown (hG _ m_295) d_HaulFlows_dual_91 ?_
                refine lv_goto (tgt := 109) hx hb d_HaulFlows_dual_94 (by decide) ?_
                subst hR
                exact W.lret (v := (-1)) hx hb hr (fun t ht hW => ⟨⟨_, (), rfl, rfl, by rw [ht]; exact hP, va_K.moved hW.alike hK, hD⟩, hS.F ht⟩) hS.2.2 d_HaulFlows_dual_109
            · replace hR := (if_pos c62).symm.trans hR
              refine lv_aload_n hx hb d_HaulFlows_dual_65 rfl (lv_at hl 0 rfl) ?_
              refine va_get (D := (dC, dI)) (ci := 4) (v := .ref (aP 0)) (C := R_HaulFlows) (T := T_HaulFlows) (N := 5) hx hb hG in_HaulFlows hown hK hP 0 rfl rfl 1 (by decide) (hG _ m_197) (fun _ h9 => h9) rfl d_HaulFlows_dual_66 ?_
              refine lv_iload_n hx hb d_HaulFlows_dual_69 rfl (lv_at hl 2 rfl) ?_
              obtain ⟨y70, hy70, hR⟩ := hw_bind hR
              have hM := c_Plan_priceOfOneMore l dC dI cI cJ cZ H.size aP VP0 VP1 VP2 NP0 LP0 LP1 LP2 LP3 LP4 IP0 IP1 aS VS0 VS1 VS2 NS0 NS1 NS2 LS0 LS1 LS2 LS3 LS4 LS5 LS6 LS7 LS8 IS0 aY VY0 LY0 LY1 LY2 IY0 x2.toNatClampNeg (by first | assumption | omega) (by first | assumption | omega) (by first | assumption | omega) (by first | assumption | omega) (by first | assumption | omega)
              rw [hy70] at hM
              refine hw_callVl (As := [.int (nI x2.toNatClampNeg)]) (rest := []) (wr := w_H cI cJ cZ aH VH0 aS aP aQ aT ++ w_P cI cJ cZ aQ VQ0 VQ1 VQ2 NQ0 LQ0 LQ1 LQ2 LQ3 LQ4 IQ0 IQ1 aS ++ w_T cI cJ cZ aT VT0 NT0 NT1 LT0 IT0 aS) ⟨hx, hb, hml, hown, hG⟩ hM (hw_cwV 1 hG m_322 m_323 m_324 m_5 m_325 rfl rfl (by decide +kernel) ⟨Nat.le_of_ble_eq_true rfl, Nat.le_of_ble_eq_true rfl⟩) hK hP hD hS hA [20, 21, 22, 23, 24, 25, 26, 27, 28, 1, 2, 3, 4, 5, 6, 7, 8, 9, 10, 11, 12, 13, 14, 15, 16, 17, 18, 19] [0, 29, 30, 31, 32, 33, 34, 35, 36, 37, 38, 39, 40, 41, 42] rfl rfl (by decide) (by decide) (by decide) (hw_recv hK hP 20 rfl rfl) rfl hl.1 rfl (Nat.le_of_ble_eq_true rfl) d_HaulFlows_dual_70 ⟨Nat.le_of_ble_eq_true rfl, Nat.le_of_ble_eq_true rfl⟩ (fun H locs hP hD hS => ?_)
              have hP : va_P (dC, dI) vwCl (w_H cI cJ cZ aH VH0 aS aP aQ aT ++ w_S cI cJ cZ aS VS0 VS1 VS2 NS0 NS1 NS2 LS0 LS1 LS2 LS3 LS4 LS5 LS6 LS7 LS8 IS0 aY ++ w_Y cI cJ cZ aY VY0 LY0 LY1 LY2 IY0 ++ w_P cI cJ cZ aP VP0 VP1 VP2 NP0 LP0 LP1 LP2 LP3 y70.2.1 y70.2.2.1 y70.2.2.2 aS ++ w_P cI cJ cZ aQ VQ0 VQ1 VQ2 NQ0 LQ0 LQ1 LQ2 LQ3 LQ4 IQ0 IQ1 aS ++ w_T cI cJ cZ aT VT0 NT0 NT1 LT0 IT0 aS) H := hP.sub [0, 24, 25, 26, 27, 28, 29, 30, 31, 32, 33, 34, 35, 36, 37, 38, 39, 40, 41, 42, 15, 16, 17, 18, 19, 20, 21, 22, 23, 1, 2, 3, 4, 5, 6, 7, 8, 9, 10, 11, 12, 13, 14] rfl
              have hD : va_D A (w_H cI cJ cZ aH VH0 aS aP aQ aT ++ w_S cI cJ cZ aS VS0 VS1 VS2 NS0 NS1 NS2 LS0 LS1 LS2 LS3 LS4 LS5 LS6 LS7 LS8 IS0 aY ++ w_Y cI cJ cZ aY VY0 LY0 LY1 LY2 IY0 ++ w_P cI cJ cZ aP VP0 VP1 VP2 NP0 LP0 LP1 LP2 LP3 y70.2.1 y70.2.2.1 y70.2.2.2 aS ++ w_P cI cJ cZ aQ VQ0 VQ1 VQ2 NQ0 LQ0 LQ1 LQ2 LQ3 LQ4 IQ0 IQ1 aS ++ w_T cI cJ cZ aT VT0 NT0 NT1 LT0 IT0 aS) := hD.sub [0, 24, 25, 26, 27, 28, 29, 30, 31, 32, 33, 34, 35, 36, 37, 38, 39, 40, 41, 42, 15, 16, 17, 18, 19, 20, 21, 22, 23, 1, 2, 3, 4, 5, 6, 7, 8, 9, 10, 11, 12, 13, 14] (by decide) rfl
              refine lv_iload_n hx hb d_HaulFlows_dual_73 rfl (lv_at hl 3 rfl) ?_
              obtain ⟨y74, hy74, hR⟩ := hw_bind hR
              have hM := c_HaulFlows_partOfChange l dC dI cI cJ cZ H.size y70.1 x3
              rw [hy74] at hM
              refine hw_callSl (As := [.long y70.1, .int x3]) (rest := []) (wr := w_H cI cJ cZ aH VH0 aS aP aQ aT ++ w_S cI cJ cZ aS VS0 VS1 VS2 NS0 NS1 NS2 LS0 LS1 LS2 LS3 LS4 LS5 LS6 LS7 LS8 IS0 aY ++ w_Y cI cJ cZ aY VY0 LY0 LY1 LY2 IY0 ++ w_P cI cJ cZ aP VP0 VP1 VP2 NP0 LP0 LP1 LP2 LP3 y70.2.1 y70.2.2.1 y70.2.2.2 aS ++ w_P cI cJ cZ aQ VQ0 VQ1 VQ2 NQ0 LQ0 LQ1 LQ2 LQ3 LQ4 IQ0 IQ1 aS ++ w_T cI cJ cZ aT VT0 NT0 NT1 LT0 IT0 aS) ⟨hx, hb, hml, hown, hG⟩ hM (hw_cwS 2 hG m_353 m_354 m_1 m_355 rfl rfl (by decide +kernel) ⟨Nat.le_of_ble_eq_true rfl, Nat.le_of_ble_eq_true rfl⟩) hK hP hD hS hA [] [0, 1, 2, 3, 4, 5, 6, 7, 8, 9, 10, 11, 12, 13, 14, 15, 16, 17, 18, 19, 20, 21, 22, 23, 24, 25, 26, 27, 28, 29, 30, 31, 32, 33, 34, 35, 36, 37, 38, 39, 40, 41, 42] rfl rfl (by decide) (by decide) (by decide) rfl hl.1 rfl (Nat.le_of_ble_eq_true rfl) d_HaulFlows_dual_74 ⟨Nat.le_of_ble_eq_true rfl, Nat.le_of_ble_eq_true rfl⟩ (fun H locs hP hD hS => ?_)
              have hP : va_P (dC, dI) vwCl (w_H cI cJ cZ aH VH0 aS aP aQ aT ++ w_S cI cJ cZ aS VS0 VS1 VS2 NS0 NS1 NS2 LS0 LS1 LS2 LS3 LS4 LS5 LS6 LS7 LS8 IS0 aY ++ w_Y cI cJ cZ aY VY0 LY0 LY1 LY2 IY0 ++ w_P cI cJ cZ aP VP0 VP1 VP2 NP0 LP0 LP1 LP2 LP3 y70.2.1 y70.2.2.1 y70.2.2.2 aS ++ w_P cI cJ cZ aQ VQ0 VQ1 VQ2 NQ0 LQ0 LQ1 LQ2 LQ3 LQ4 IQ0 IQ1 aS ++ w_T cI cJ cZ aT VT0 NT0 NT1 LT0 IT0 aS) H := hP
              have hD : va_D A (w_H cI cJ cZ aH VH0 aS aP aQ aT ++ w_S cI cJ cZ aS VS0 VS1 VS2 NS0 NS1 NS2 LS0 LS1 LS2 LS3 LS4 LS5 LS6 LS7 LS8 IS0 aY ++ w_Y cI cJ cZ aY VY0 LY0 LY1 LY2 IY0 ++ w_P cI cJ cZ aP VP0 VP1 VP2 NP0 LP0 LP1 LP2 LP3 y70.2.1 y70.2.2.1 y70.2.2.2 aS ++ w_P cI cJ cZ aQ VQ0 VQ1 VQ2 NQ0 LQ0 LQ1 LQ2 LQ3 LQ4 IQ0 IQ1 aS ++ w_T cI cJ cZ aT VT0 NT0 NT1 LT0 IT0 aS) := hD
              subst hR
              exact W.lret (v := y74) hx hb hr (fun t ht hW => ⟨⟨_, (), rfl, rfl, by rw [ht]; exact hP, va_K.moved hW.alike hK, hD⟩, hS.F ht⟩) hS.2.2 d_HaulFlows_dual_77
          · replace hR := (if_pos c53).symm.trans hR
            refine lv_ldc2 (v := (-1)) hx hb hown (hG _ m_295) d_HaulFlows_dual_56 ?_
            subst hR
            exact W.lret (v := (-1)) hx hb hr (fun t ht hW => ⟨⟨_, (), rfl, rfl, by rw [ht]; exact hP, va_K.moved hW.alike hK, hD⟩, hS.F ht⟩) hS.2.2 d_HaulFlows_dual_59
        · replace hR := (if_pos c30).symm.trans hR
          refine lv_aload_n hx hb d_HaulFlows_dual_33 rfl (lv_at hl 0 rfl) ?_
          refine va_get (D := (dC, dI)) (ci := 4) (v := .ref (aS 0)) (C := R_HaulFlows) (T := T_HaulFlows) (N := 5) hx hb hG in_HaulFlows hown hK hP 0 rfl rfl 0 (by decide) (hG _ m_196) (fun _ h9 => h9) rfl d_HaulFlows_dual_34 ?_
          refine va_get (D := (dC, dI)) (ci := 2) (v := .int (nI VS0)) (C := R_Site) (T := T_Site) (N := 17) hx hb hG in_Site hown hK hP 1 rfl rfl 0 (by decide) (hG _ m_57) (fun _ h9 => h9) rfl d_HaulFlows_dual_37 ?_
          refine lv_goto (tgt := 50) hx hb d_HaulFlows_dual_40 (by decide) ?_
          obtain ⟨y50, hy50, hR⟩ := hw_bind hR
          have hM := c_HaulFlows_isBelow l dC dI cI cJ cZ H.size x2 (nI VS0)
          rw [hy50] at hM
          refine hw_callSi (As := [.int x2, .int (nI VS0)]) (rest := []) (wr := w_H cI cJ cZ aH VH0 aS aP aQ aT ++ w_S cI cJ cZ aS VS0 VS1 VS2 NS0 NS1 NS2 LS0 LS1 LS2 LS3 LS4 LS5 LS6 LS7 LS8 IS0 aY ++ w_Y cI cJ cZ aY VY0 LY0 LY1 LY2 IY0 ++ w_P cI cJ cZ aP VP0 VP1 VP2 NP0 LP0 LP1 LP2 LP3 LP4 IP0 IP1 aS ++ w_P cI cJ cZ aQ VQ0 VQ1 VQ2 NQ0 LQ0 LQ1 LQ2 LQ3 LQ4 IQ0 IQ1 aS ++ w_T cI cJ cZ aT VT0 NT0 NT1 LT0 IT0 aS) ⟨hx, hb, hml, hown, hG⟩ hM (hw_cwS 2 hG m_220 m_221 m_1 m_222 rfl rfl (by decide +kernel) ⟨Nat.le_of_ble_eq_true rfl, Nat.le_of_ble_eq_true rfl⟩) hK hP hD hS hA [] [0, 1, 2, 3, 4, 5, 6, 7, 8, 9, 10, 11, 12, 13, 14, 15, 16, 17, 18, 19, 20, 21, 22, 23, 24, 25, 26, 27, 28, 29, 30, 31, 32, 33, 34, 35, 36, 37, 38, 39, 40, 41, 42] rfl rfl (by decide) (by decide) (by decide) rfl hl.1 rfl (Nat.le_of_ble_eq_true rfl) d_HaulFlows_dual_50 ⟨Nat.le_of_ble_eq_true rfl, Nat.le_of_ble_eq_true rfl⟩ (fun H locs hP hD hS => ?_)
          have hP : va_P (dC, dI) vwCl (w_H cI cJ cZ aH VH0 aS aP aQ aT ++ w_S cI cJ cZ aS VS0 VS1 VS2 NS0 NS1 NS2 LS0 LS1 LS2 LS3 LS4 LS5 LS6 LS7 LS8 IS0 aY ++ w_Y cI cJ cZ aY VY0 LY0 LY1 LY2 IY0 ++ w_P cI cJ cZ aP VP0 VP1 VP2 NP0 LP0 LP1 LP2 LP3 LP4 IP0 IP1 aS ++ w_P cI cJ cZ aQ VQ0 VQ1 VQ2 NQ0 LQ0 LQ1 LQ2 LQ3 LQ4 IQ0 IQ1 aS ++ w_T cI cJ cZ aT VT0 NT0 NT1 LT0 IT0 aS) H := hP
          have hD : va_D A (w_H cI cJ cZ aH VH0 aS aP aQ aT ++ w_S cI cJ cZ aS VS0 VS1 VS2 NS0 NS1 NS2 LS0 LS1 LS2 LS3 LS4 LS5 LS6 LS7 LS8 IS0 aY ++ w_Y cI cJ cZ aY VY0 LY0 LY1 LY2 IY0 ++ w_P cI cJ cZ aP VP0 VP1 VP2 NP0 LP0 LP1 LP2 LP3 LP4 IP0 IP1 aS ++ w_P cI cJ cZ aQ VQ0 VQ1 VQ2 NQ0 LQ0 LQ1 LQ2 LQ3 LQ4 IQ0 IQ1 aS ++ w_T cI cJ cZ aT VT0 NT0 NT1 LT0 IT0 aS) := hD
          have hbl50 := hp_below (x := x2) (n := VS0) (by omega)
          rw [hy50] at hbl50
          refine lv_if_ne (tgt := 60) hx hb d_HaulFlows_dual_53 (by decide) (fun c53 => ?_) (fun c53 => ?_)
          · replace hR := (if_neg c53).symm.trans hR
            obtain ⟨hna2, hnb2⟩ := hbl50 c53
            have en60_2 : nI (x2.toNatClampNeg) = x2 := hw_nat hna2
            have hl : lv_has ls 4 [(0, .ref (aH 0)), (1, .int x1), (2, .int (nI x2.toNatClampNeg)), (3, .int x3)] := by rw [en60_2]; exact hl
            refine lv_iload_n hx hb d_HaulFlows_dual_60 rfl (lv_at hl 1 rfl) ?_
            refine lv_iconst (v := nI 1) hx hb d_HaulFlows_dual_61 (by decide) ?_
            refine lv_icmp_ne (tgt := 78) hx hb d_HaulFlows_dual_62 (by decide) (fun c62 => ?_) (fun c62 => ?_)
            · replace hR := (if_neg c62).symm.trans hR
              refine lv_aload_n hx hb d_HaulFlows_dual_78 rfl (lv_at hl 0 rfl) ?_
              refine va_get (D := (dC, dI)) (ci := 4) (v := .ref (aS 0)) (C := R_HaulFlows) (T := T_HaulFlows) (N := 5) hx hb hG in_HaulFlows hown hK hP 0 rfl rfl 0 (by decide) (hG _ m_196) (fun _ h9 => h9) rfl d_HaulFlows_dual_79 ?_
              refine lv_iload_n hx hb d_HaulFlows_dual_82 rfl (lv_at hl 2 rfl) ?_
              obtain ⟨y83, hy83, hR⟩ := hw_bind hR
              have hM := c_Site_gives l dC dI cI cJ cZ H.size aS VS0 VS1 VS2 NS0 NS1 NS2 LS0 LS1 LS2 LS3 LS4 LS5 LS6 LS7 LS8 IS0 aY VY0 LY0 LY1 LY2 IY0 x2.toNatClampNeg (by first | assumption | omega) (by first | assumption | omega)
              rw [hy83] at hM
              refine hw_callVl (As := [.int (nI x2.toNatClampNeg)]) (rest := []) (wr := w_H cI cJ cZ aH VH0 aS aP aQ aT ++ w_P cI cJ cZ aP VP0 VP1 VP2 NP0 LP0 LP1 LP2 LP3 LP4 IP0 IP1 aS ++ w_P cI cJ cZ aQ VQ0 VQ1 VQ2 NQ0 LQ0 LQ1 LQ2 LQ3 LQ4 IQ0 IQ1 aS ++ w_T cI cJ cZ aT VT0 NT0 NT1 LT0 IT0 aS) ⟨hx, hb, hml, hown, hG⟩ hM (hw_cwV 1 hG m_356 m_357 m_358 m_2 m_359 rfl rfl (by decide +kernel) ⟨Nat.le_of_ble_eq_true rfl, Nat.le_of_ble_eq_true rfl⟩) hK hP hD hS hA [1, 2, 3, 4, 5, 6, 7, 8, 9, 10, 11, 12, 13, 14, 15, 16, 17, 18, 19] [0, 20, 21, 22, 23, 24, 25, 26, 27, 28, 29, 30, 31, 32, 33, 34, 35, 36, 37, 38, 39, 40, 41, 42] rfl rfl (by decide) (by decide) (by decide) (hw_recv hK hP 1 rfl rfl) rfl hl.1 rfl (Nat.le_of_ble_eq_true rfl) d_HaulFlows_dual_83 ⟨Nat.le_of_ble_eq_true rfl, Nat.le_of_ble_eq_true rfl⟩ (fun H locs hP hD hS => ?_)
              have hP : va_P (dC, dI) vwCl (w_H cI cJ cZ aH VH0 aS aP aQ aT ++ w_S cI cJ cZ aS VS0 VS1 VS2 NS0 NS1 NS2 LS0 LS1 LS2 LS3 LS4 LS5 LS6 LS7 LS8 IS0 aY ++ w_Y cI cJ cZ aY VY0 LY0 LY1 LY2 IY0 ++ w_P cI cJ cZ aP VP0 VP1 VP2 NP0 LP0 LP1 LP2 LP3 LP4 IP0 IP1 aS ++ w_P cI cJ cZ aQ VQ0 VQ1 VQ2 NQ0 LQ0 LQ1 LQ2 LQ3 LQ4 IQ0 IQ1 aS ++ w_T cI cJ cZ aT VT0 NT0 NT1 LT0 IT0 aS) H := hP.sub [0, 24, 25, 26, 27, 28, 29, 30, 31, 32, 33, 34, 35, 36, 37, 38, 39, 40, 41, 42, 1, 2, 3, 4, 5, 6, 7, 8, 9, 10, 11, 12, 13, 14, 15, 16, 17, 18, 19, 20, 21, 22, 23] rfl
              have hD : va_D A (w_H cI cJ cZ aH VH0 aS aP aQ aT ++ w_S cI cJ cZ aS VS0 VS1 VS2 NS0 NS1 NS2 LS0 LS1 LS2 LS3 LS4 LS5 LS6 LS7 LS8 IS0 aY ++ w_Y cI cJ cZ aY VY0 LY0 LY1 LY2 IY0 ++ w_P cI cJ cZ aP VP0 VP1 VP2 NP0 LP0 LP1 LP2 LP3 LP4 IP0 IP1 aS ++ w_P cI cJ cZ aQ VQ0 VQ1 VQ2 NQ0 LQ0 LQ1 LQ2 LQ3 LQ4 IQ0 IQ1 aS ++ w_T cI cJ cZ aT VT0 NT0 NT1 LT0 IT0 aS) := hD.sub [0, 24, 25, 26, 27, 28, 29, 30, 31, 32, 33, 34, 35, 36, 37, 38, 39, 40, 41, 42, 1, 2, 3, 4, 5, 6, 7, 8, 9, 10, 11, 12, 13, 14, 15, 16, 17, 18, 19, 20, 21, 22, 23] (by decide) rfl
              refine lv_lconst (v := 0) hx hb d_HaulFlows_dual_86 (by decide) ?_
              refine hw_lcmp_ne (tgt := 97) hx hb d_HaulFlows_dual_87 d_HaulFlows_dual_88 (by decide) (fun c87 => ?_) (fun c87 => ?_)
              · replace hR := (if_neg c87).symm.trans hR
                refine lv_aload_n hx hb d_HaulFlows_dual_97 rfl (lv_at hl 0 rfl) ?_
                refine va_get (D := (dC, dI)) (ci := 4) (v := .ref (aP 0)) (C := R_HaulFlows) (T := T_HaulFlows) (N := 5) hx hb hG in_HaulFlows hown hK hP 0 rfl rfl 1 (by decide) (hG _ m_197) (fun _ h9 => h9) rfl d_HaulFlows_dual_98 ?_
                refine lv_iload_n hx hb d_HaulFlows_dual_101 rfl (lv_at hl 2 rfl) ?_
                obtain ⟨y102, hy102, hR⟩ := hw_bind hR
                have hM := c_Plan_priceOfOneLess l dC dI cI cJ cZ H.size aP VP0 VP1 VP2 NP0 LP0 LP1 LP2 LP3 LP4 IP0 IP1 aS VS0 VS1 VS2 NS0 NS1 NS2 LS0 LS1 LS2 LS3 LS4 LS5 LS6 LS7 LS8 IS0 aY VY0 LY0 LY1 LY2 IY0 x2.toNatClampNeg (by first | assumption | omega) (by first | assumption | omega) (by first | assumption | omega)
                rw [hy102] at hM
                refine hw_callVl (As := [.int (nI x2.toNatClampNeg)]) (rest := []) (wr := w_H cI cJ cZ aH VH0 aS aP aQ aT ++ w_P cI cJ cZ aQ VQ0 VQ1 VQ2 NQ0 LQ0 LQ1 LQ2 LQ3 LQ4 IQ0 IQ1 aS ++ w_T cI cJ cZ aT VT0 NT0 NT1 LT0 IT0 aS) ⟨hx, hb, hml, hown, hG⟩ hM (hw_cwV 1 hG m_360 m_361 m_362 m_5 m_363 rfl rfl (by decide +kernel) ⟨Nat.le_of_ble_eq_true rfl, Nat.le_of_ble_eq_true rfl⟩) hK hP hD hS hA [20, 21, 22, 23, 24, 25, 26, 27, 28, 1, 2, 3, 4, 5, 6, 7, 8, 9, 10, 11, 12, 13, 14, 15, 16, 17, 18, 19] [0, 29, 30, 31, 32, 33, 34, 35, 36, 37, 38, 39, 40, 41, 42] rfl rfl (by decide) (by decide) (by decide) (hw_recv hK hP 20 rfl rfl) rfl hl.1 rfl (Nat.le_of_ble_eq_true rfl) d_HaulFlows_dual_102 ⟨Nat.le_of_ble_eq_true rfl, Nat.le_of_ble_eq_true rfl⟩ (fun H locs hP hD hS => ?_)
                have hP : va_P (dC, dI) vwCl (w_H cI cJ cZ aH VH0 aS aP aQ aT ++ w_S cI cJ cZ aS VS0 VS1 VS2 NS0 NS1 NS2 LS0 LS1 LS2 LS3 LS4 LS5 LS6 LS7 LS8 IS0 aY ++ w_Y cI cJ cZ aY VY0 LY0 LY1 LY2 IY0 ++ w_P cI cJ cZ aP VP0 VP1 VP2 NP0 LP0 LP1 LP2 LP3 y102.2.1 y102.2.2.1 y102.2.2.2 aS ++ w_P cI cJ cZ aQ VQ0 VQ1 VQ2 NQ0 LQ0 LQ1 LQ2 LQ3 LQ4 IQ0 IQ1 aS ++ w_T cI cJ cZ aT VT0 NT0 NT1 LT0 IT0 aS) H := hP.sub [0, 24, 25, 26, 27, 28, 29, 30, 31, 32, 33, 34, 35, 36, 37, 38, 39, 40, 41, 42, 15, 16, 17, 18, 19, 20, 21, 22, 23, 1, 2, 3, 4, 5, 6, 7, 8, 9, 10, 11, 12, 13, 14] rfl
                have hD : va_D A (w_H cI cJ cZ aH VH0 aS aP aQ aT ++ w_S cI cJ cZ aS VS0 VS1 VS2 NS0 NS1 NS2 LS0 LS1 LS2 LS3 LS4 LS5 LS6 LS7 LS8 IS0 aY ++ w_Y cI cJ cZ aY VY0 LY0 LY1 LY2 IY0 ++ w_P cI cJ cZ aP VP0 VP1 VP2 NP0 LP0 LP1 LP2 LP3 y102.2.1 y102.2.2.1 y102.2.2.2 aS ++ w_P cI cJ cZ aQ VQ0 VQ1 VQ2 NQ0 LQ0 LQ1 LQ2 LQ3 LQ4 IQ0 IQ1 aS ++ w_T cI cJ cZ aT VT0 NT0 NT1 LT0 IT0 aS) := hD.sub [0, 24, 25, 26, 27, 28, 29, 30, 31, 32, 33, 34, 35, 36, 37, 38, 39, 40, 41, 42, 15, 16, 17, 18, 19, 20, 21, 22, 23, 1, 2, 3, 4, 5, 6, 7, 8, 9, 10, 11, 12, 13, 14] (by decide) rfl
                refine lv_iload_n hx hb d_HaulFlows_dual_105 rfl (lv_at hl 3 rfl) ?_
                obtain ⟨y106, hy106, hR⟩ := hw_bind hR
                have hM := c_HaulFlows_partOfChange l dC dI cI cJ cZ H.size y102.1 x3
                rw [hy106] at hM
                refine hw_callSl (As := [.long y102.1, .int x3]) (rest := []) (wr := w_H cI cJ cZ aH VH0 aS aP aQ aT ++ w_S cI cJ cZ aS VS0 VS1 VS2 NS0 NS1 NS2 LS0 LS1 LS2 LS3 LS4 LS5 LS6 LS7 LS8 IS0 aY ++ w_Y cI cJ cZ aY VY0 LY0 LY1 LY2 IY0 ++ w_P cI cJ cZ aP VP0 VP1 VP2 NP0 LP0 LP1 LP2 LP3 y102.2.1 y102.2.2.1 y102.2.2.2 aS ++ w_P cI cJ cZ aQ VQ0 VQ1 VQ2 NQ0 LQ0 LQ1 LQ2 LQ3 LQ4 IQ0 IQ1 aS ++ w_T cI cJ cZ aT VT0 NT0 NT1 LT0 IT0 aS) ⟨hx, hb, hml, hown, hG⟩ hM (hw_cwS 2 hG m_353 m_354 m_1 m_355 rfl rfl (by decide +kernel) ⟨Nat.le_of_ble_eq_true rfl, Nat.le_of_ble_eq_true rfl⟩) hK hP hD hS hA [] [0, 1, 2, 3, 4, 5, 6, 7, 8, 9, 10, 11, 12, 13, 14, 15, 16, 17, 18, 19, 20, 21, 22, 23, 24, 25, 26, 27, 28, 29, 30, 31, 32, 33, 34, 35, 36, 37, 38, 39, 40, 41, 42] rfl rfl (by decide) (by decide) (by decide) rfl hl.1 rfl (Nat.le_of_ble_eq_true rfl) d_HaulFlows_dual_106 ⟨Nat.le_of_ble_eq_true rfl, Nat.le_of_ble_eq_true rfl⟩ (fun H locs hP hD hS => ?_)
                have hP : va_P (dC, dI) vwCl (w_H cI cJ cZ aH VH0 aS aP aQ aT ++ w_S cI cJ cZ aS VS0 VS1 VS2 NS0 NS1 NS2 LS0 LS1 LS2 LS3 LS4 LS5 LS6 LS7 LS8 IS0 aY ++ w_Y cI cJ cZ aY VY0 LY0 LY1 LY2 IY0 ++ w_P cI cJ cZ aP VP0 VP1 VP2 NP0 LP0 LP1 LP2 LP3 y102.2.1 y102.2.2.1 y102.2.2.2 aS ++ w_P cI cJ cZ aQ VQ0 VQ1 VQ2 NQ0 LQ0 LQ1 LQ2 LQ3 LQ4 IQ0 IQ1 aS ++ w_T cI cJ cZ aT VT0 NT0 NT1 LT0 IT0 aS) H := hP
                have hD : va_D A (w_H cI cJ cZ aH VH0 aS aP aQ aT ++ w_S cI cJ cZ aS VS0 VS1 VS2 NS0 NS1 NS2 LS0 LS1 LS2 LS3 LS4 LS5 LS6 LS7 LS8 IS0 aY ++ w_Y cI cJ cZ aY VY0 LY0 LY1 LY2 IY0 ++ w_P cI cJ cZ aP VP0 VP1 VP2 NP0 LP0 LP1 LP2 LP3 y102.2.1 y102.2.2.1 y102.2.2.2 aS ++ w_P cI cJ cZ aQ VQ0 VQ1 VQ2 NQ0 LQ0 LQ1 LQ2 LQ3 LQ4 IQ0 IQ1 aS ++ w_T cI cJ cZ aT VT0 NT0 NT1 LT0 IT0 aS) := hD
                subst hR
                exact W.lret (v := y106) hx hb hr (fun t ht hW => ⟨⟨_, (), rfl, rfl, by rw [ht]; exact hP, va_K.moved hW.alike hK, hD⟩, hS.F ht⟩) hS.2.2 d_HaulFlows_dual_109
              · replace hR := (if_pos c87).symm.trans hR
                refine lv_ldc2 (v := (-1)) hx hb hown (hG _ m_295) d_HaulFlows_dual_91 ?_
                refine lv_goto (tgt := 109) hx hb d_HaulFlows_dual_94 (by decide) ?_
                subst hR
                exact W.lret (v := (-1)) hx hb hr (fun t ht hW => ⟨⟨_, (), rfl, rfl, by rw [ht]; exact hP, va_K.moved hW.alike hK, hD⟩, hS.F ht⟩) hS.2.2 d_HaulFlows_dual_109
            · replace hR := (if_pos c62).symm.trans hR
              refine lv_aload_n hx hb d_HaulFlows_dual_65 rfl (lv_at hl 0 rfl) ?_
              refine va_get (D := (dC, dI)) (ci := 4) (v := .ref (aP 0)) (C := R_HaulFlows) (T := T_HaulFlows) (N := 5) hx hb hG in_HaulFlows hown hK hP 0 rfl rfl 1 (by decide) (hG _ m_197) (fun _ h9 => h9) rfl d_HaulFlows_dual_66 ?_
              refine lv_iload_n hx hb d_HaulFlows_dual_69 rfl (lv_at hl 2 rfl) ?_
              obtain ⟨y70, hy70, hR⟩ := hw_bind hR
              have hM := c_Plan_priceOfOneMore l dC dI cI cJ cZ H.size aP VP0 VP1 VP2 NP0 LP0 LP1 LP2 LP3 LP4 IP0 IP1 aS VS0 VS1 VS2 NS0 NS1 NS2 LS0 LS1 LS2 LS3 LS4 LS5 LS6 LS7 LS8 IS0 aY VY0 LY0 LY1 LY2 IY0 x2.toNatClampNeg (by first | assumption | omega) (by first | assumption | omega) (by first | assumption | omega) (by first | assumption | omega) (by first | assumption | omega)
              rw [hy70] at hM
              refine hw_callVl (As := [.int (nI x2.toNatClampNeg)]) (rest := []) (wr := w_H cI cJ cZ aH VH0 aS aP aQ aT ++ w_P cI cJ cZ aQ VQ0 VQ1 VQ2 NQ0 LQ0 LQ1 LQ2 LQ3 LQ4 IQ0 IQ1 aS ++ w_T cI cJ cZ aT VT0 NT0 NT1 LT0 IT0 aS) ⟨hx, hb, hml, hown, hG⟩ hM (hw_cwV 1 hG m_322 m_323 m_324 m_5 m_325 rfl rfl (by decide +kernel) ⟨Nat.le_of_ble_eq_true rfl, Nat.le_of_ble_eq_true rfl⟩) hK hP hD hS hA [20, 21, 22, 23, 24, 25, 26, 27, 28, 1, 2, 3, 4, 5, 6, 7, 8, 9, 10, 11, 12, 13, 14, 15, 16, 17, 18, 19] [0, 29, 30, 31, 32, 33, 34, 35, 36, 37, 38, 39, 40, 41, 42] rfl rfl (by decide) (by decide) (by decide) (hw_recv hK hP 20 rfl rfl) rfl hl.1 rfl (Nat.le_of_ble_eq_true rfl) d_HaulFlows_dual_70 ⟨Nat.le_of_ble_eq_true rfl, Nat.le_of_ble_eq_true rfl⟩ (fun H locs hP hD hS => ?_)
              have hP : va_P (dC, dI) vwCl (w_H cI cJ cZ aH VH0 aS aP aQ aT ++ w_S cI cJ cZ aS VS0 VS1 VS2 NS0 NS1 NS2 LS0 LS1 LS2 LS3 LS4 LS5 LS6 LS7 LS8 IS0 aY ++ w_Y cI cJ cZ aY VY0 LY0 LY1 LY2 IY0 ++ w_P cI cJ cZ aP VP0 VP1 VP2 NP0 LP0 LP1 LP2 LP3 y70.2.1 y70.2.2.1 y70.2.2.2 aS ++ w_P cI cJ cZ aQ VQ0 VQ1 VQ2 NQ0 LQ0 LQ1 LQ2 LQ3 LQ4 IQ0 IQ1 aS ++ w_T cI cJ cZ aT VT0 NT0 NT1 LT0 IT0 aS) H := hP.sub [0, 24, 25, 26, 27, 28, 29, 30, 31, 32, 33, 34, 35, 36, 37, 38, 39, 40, 41, 42, 15, 16, 17, 18, 19, 20, 21, 22, 23, 1, 2, 3, 4, 5, 6, 7, 8, 9, 10, 11, 12, 13, 14] rfl
              have hD : va_D A (w_H cI cJ cZ aH VH0 aS aP aQ aT ++ w_S cI cJ cZ aS VS0 VS1 VS2 NS0 NS1 NS2 LS0 LS1 LS2 LS3 LS4 LS5 LS6 LS7 LS8 IS0 aY ++ w_Y cI cJ cZ aY VY0 LY0 LY1 LY2 IY0 ++ w_P cI cJ cZ aP VP0 VP1 VP2 NP0 LP0 LP1 LP2 LP3 y70.2.1 y70.2.2.1 y70.2.2.2 aS ++ w_P cI cJ cZ aQ VQ0 VQ1 VQ2 NQ0 LQ0 LQ1 LQ2 LQ3 LQ4 IQ0 IQ1 aS ++ w_T cI cJ cZ aT VT0 NT0 NT1 LT0 IT0 aS) := hD.sub [0, 24, 25, 26, 27, 28, 29, 30, 31, 32, 33, 34, 35, 36, 37, 38, 39, 40, 41, 42, 15, 16, 17, 18, 19, 20, 21, 22, 23, 1, 2, 3, 4, 5, 6, 7, 8, 9, 10, 11, 12, 13, 14] (by decide) rfl
              refine lv_iload_n hx hb d_HaulFlows_dual_73 rfl (lv_at hl 3 rfl) ?_
              obtain ⟨y74, hy74, hR⟩ := hw_bind hR
              have hM := c_HaulFlows_partOfChange l dC dI cI cJ cZ H.size y70.1 x3
              rw [hy74] at hM
              refine hw_callSl (As := [.long y70.1, .int x3]) (rest := []) (wr := w_H cI cJ cZ aH VH0 aS aP aQ aT ++ w_S cI cJ cZ aS VS0 VS1 VS2 NS0 NS1 NS2 LS0 LS1 LS2 LS3 LS4 LS5 LS6 LS7 LS8 IS0 aY ++ w_Y cI cJ cZ aY VY0 LY0 LY1 LY2 IY0 ++ w_P cI cJ cZ aP VP0 VP1 VP2 NP0 LP0 LP1 LP2 LP3 y70.2.1 y70.2.2.1 y70.2.2.2 aS ++ w_P cI cJ cZ aQ VQ0 VQ1 VQ2 NQ0 LQ0 LQ1 LQ2 LQ3 LQ4 IQ0 IQ1 aS ++ w_T cI cJ cZ aT VT0 NT0 NT1 LT0 IT0 aS) ⟨hx, hb, hml, hown, hG⟩ hM (hw_cwS 2 hG m_353 m_354 m_1 m_355 rfl rfl (by decide +kernel) ⟨Nat.le_of_ble_eq_true rfl, Nat.le_of_ble_eq_true rfl⟩) hK hP hD hS hA [] [0, 1, 2, 3, 4, 5, 6, 7, 8, 9, 10, 11, 12, 13, 14, 15, 16, 17, 18, 19, 20, 21, 22, 23, 24, 25, 26, 27, 28, 29, 30, 31, 32, 33, 34, 35, 36, 37, 38, 39, 40, 41, 42] rfl rfl (by decide) (by decide) (by decide) rfl hl.1 rfl (Nat.le_of_ble_eq_true rfl) d_HaulFlows_dual_74 ⟨Nat.le_of_ble_eq_true rfl, Nat.le_of_ble_eq_true rfl⟩ (fun H locs hP hD hS => ?_)
              have hP : va_P (dC, dI) vwCl (w_H cI cJ cZ aH VH0 aS aP aQ aT ++ w_S cI cJ cZ aS VS0 VS1 VS2 NS0 NS1 NS2 LS0 LS1 LS2 LS3 LS4 LS5 LS6 LS7 LS8 IS0 aY ++ w_Y cI cJ cZ aY VY0 LY0 LY1 LY2 IY0 ++ w_P cI cJ cZ aP VP0 VP1 VP2 NP0 LP0 LP1 LP2 LP3 y70.2.1 y70.2.2.1 y70.2.2.2 aS ++ w_P cI cJ cZ aQ VQ0 VQ1 VQ2 NQ0 LQ0 LQ1 LQ2 LQ3 LQ4 IQ0 IQ1 aS ++ w_T cI cJ cZ aT VT0 NT0 NT1 LT0 IT0 aS) H := hP
              have hD : va_D A (w_H cI cJ cZ aH VH0 aS aP aQ aT ++ w_S cI cJ cZ aS VS0 VS1 VS2 NS0 NS1 NS2 LS0 LS1 LS2 LS3 LS4 LS5 LS6 LS7 LS8 IS0 aY ++ w_Y cI cJ cZ aY VY0 LY0 LY1 LY2 IY0 ++ w_P cI cJ cZ aP VP0 VP1 VP2 NP0 LP0 LP1 LP2 LP3 y70.2.1 y70.2.2.1 y70.2.2.2 aS ++ w_P cI cJ cZ aQ VQ0 VQ1 VQ2 NQ0 LQ0 LQ1 LQ2 LQ3 LQ4 IQ0 IQ1 aS ++ w_T cI cJ cZ aT VT0 NT0 NT1 LT0 IT0 aS) := hD
              subst hR
              exact W.lret (v := y74) hx hb hr (fun t ht hW => ⟨⟨_, (), rfl, rfl, by rw [ht]; exact hP, va_K.moved hW.alike hK, hD⟩, hS.F ht⟩) hS.2.2 d_HaulFlows_dual_77
          · replace hR := (if_pos c53).symm.trans hR
            refine lv_ldc2 (v := (-1)) hx hb hown (hG _ m_295) d_HaulFlows_dual_56 ?_
            subst hR
            exact W.lret (v := (-1)) hx hb hr (fun t ht hW => ⟨⟨_, (), rfl, rfl, by rw [ht]; exact hP, va_K.moved hW.alike hK, hD⟩, hS.F ht⟩) hS.2.2 d_HaulFlows_dual_59
      · replace hR := (if_pos c21).symm.trans hR
        refine lv_ldc2 (v := (-1)) hx hb hown (hG _ m_295) d_HaulFlows_dual_24 ?_
        subst hR
        exact W.lret (v := (-1)) hx hb hr (fun t ht hW => ⟨⟨_, (), rfl, rfl, by rw [ht]; exact hP, va_K.moved hW.alike hK, hD⟩, hS.F ht⟩) hS.2.2 d_HaulFlows_dual_27
def f_HaulFlows_clash (VH0 : Nat) (VT0 : Nat) (NT0 : Nat → Nat) (x1 : Int32) : Int32 :=
  if VH0 = 2 then (hh_bind (f_HaulFlows_isBelow x1 (nI VT0)) (fun y16 => if y16 = 0 then ((-1)) else (nI (NT0 x1.toNatClampNeg)))) else ((-1))
set_option maxHeartbeats 4000000 in
set_option maxRecDepth 100000 in
theorem c_HaulFlows_clash (l : Launch) (dC : Nat → ClassId) (dI : Nat → Nat → Nat) (cI cJ cZ : ClassId) (sz : Nat) (aH : Nat → Nat) (VH0 : Nat) (aS : Nat → Nat) (VS0 : Nat) (VS1 : Nat) (VS2 : Nat) (NS0 : Nat → Nat) (NS1 : Nat → Nat) (NS2 : Nat → Nat) (LS0 : Nat → Int64) (LS1 : Nat → Int64) (LS2 : Nat → Int64) (LS3 : Nat → Int64) (LS4 : Nat → Int64) (LS5 : Nat → Int64) (LS6 : Nat → Int64) (LS7 : Nat → Int64) (LS8 : Nat → Int64) (IS0 : Nat → Int32) (aY : Nat → Nat) (VY0 : Nat) (LY0 : Nat → Int64) (LY1 : Nat → Int64) (LY2 : Nat → Int64) (IY0 : Nat → Int32) (aP : Nat → Nat) (VP0 : Nat) (VP1 : Nat) (VP2 : Nat) (NP0 : Nat → Nat) (LP0 : Nat → Int64) (LP1 : Nat → Int64) (LP2 : Nat → Int64) (LP3 : Nat → Int64) (LP4 : Nat → Int64) (IP0 : Nat → Int32) (IP1 : Nat → Int32) (aQ : Nat → Nat) (VQ0 : Nat) (VQ1 : Nat) (VQ2 : Nat) (NQ0 : Nat → Nat) (LQ0 : Nat → Int64) (LQ1 : Nat → Int64) (LQ2 : Nat → Int64) (LQ3 : Nat → Int64) (LQ4 : Nat → Int64) (IQ0 : Nat → Int32) (IQ1 : Nat → Int32) (aT : Nat → Nat) (VT0 : Nat) (NT0 : Nat → Nat) (NT1 : Nat → Nat) (LT0 : Nat → Int64) (IT0 : Nat → Int32) (x1 : Int32) (hc8 : VS0 ≤ 8) (hp4 : VS1 ≤ 4) (hf8 : VS2 ≤ 8) (hy6 : VY0 ≤ 6) (hk4 : ∀ i, NS0 i < 4) (hcw : ∀ i, NS1 i < 12) (hfw : ∀ i, NS2 i < 12) (hq : ∀ i, NP0 i < 21) (htq : ∀ i, NT1 i < 34) (hst : VH0 ≤ 2) (hpl : VH0 = 1 → VP0 = VS0 + VS1 ∧ VP1 = VS2) (hsf : VT0 ≤ 8) : hh_Ci l y_HaulFlows_clash u_HaulFlows_clash ({ frames := 1, cells := 0, slots := 0, locals := 21 }) (dC, dI) vwCl [(cI, .int), (cJ, .long), (cZ, .boolean)] (w_H cI cJ cZ aH VH0 aS aP aQ aT ++ w_S cI cJ cZ aS VS0 VS1 VS2 NS0 NS1 NS2 LS0 LS1 LS2 LS3 LS4 LS5 LS6 LS7 LS8 IS0 aY ++ w_Y cI cJ cZ aY VY0 LY0 LY1 LY2 IY0 ++ w_P cI cJ cZ aP VP0 VP1 VP2 NP0 LP0 LP1 LP2 LP3 LP4 IP0 IP1 aS ++ w_P cI cJ cZ aQ VQ0 VQ1 VQ2 NQ0 LQ0 LQ1 LQ2 LQ3 LQ4 IQ0 IQ1 aS ++ w_T cI cJ cZ aT VT0 NT0 NT1 LT0 IT0 aS) sz [.ref (aH 0), .int x1] (f_HaulFlows_clash VH0 VT0 NT0 x1) (w_H cI cJ cZ aH VH0 aS aP aQ aT ++ w_S cI cJ cZ aS VS0 VS1 VS2 NS0 NS1 NS2 LS0 LS1 LS2 LS3 LS4 LS5 LS6 LS7 LS8 IS0 aY ++ w_Y cI cJ cZ aY VY0 LY0 LY1 LY2 IY0 ++ w_P cI cJ cZ aP VP0 VP1 VP2 NP0 LP0 LP1 LP2 LP3 LP4 IP0 IP1 aS ++ w_P cI cJ cZ aQ VQ0 VQ1 VQ2 NQ0 LQ0 LQ1 LQ2 LQ3 LQ4 IQ0 IQ1 aS ++ w_T cI cJ cZ aT VT0 NT0 NT1 LT0 IT0 aS) 0 0 := by
  unfold hh_Ci
  refine Met.ofW (cc := b_HaulFlows_clash) (maxL := 2) (ret := (some .int)) (by decide) rfl ?_
  intro p e s m args below meth c s₁ B hml hv
  obtain ⟨rfl, hsz, hP, hK, hD0⟩ := hv
  have hx := B.exec
  have hb := B.bytes
  have hr := B.returns
  have hts := atoms_spec (ws := u_HaulFlows_clash) B.pre
  have hG : ∀ w ∈ wG, w.before ([.ref (aH 0), .int x1]).toArray s = true := fun w h => hts w (List.mem_cons_of_mem _ h)
  have hown : s.vm.findClass R_HaulFlows = some m.cls := findClass_of_methodNamed B.named
  have hlocks := B.notSynchronized
  subst hsz
  have hD := hD0.self (sz := s.heap.size)
  generalize hAe : va_A (w_H cI cJ cZ aH VH0 aS aP aQ aT ++ w_S cI cJ cZ aS VS0 VS1 VS2 NS0 NS1 NS2 LS0 LS1 LS2 LS3 LS4 LS5 LS6 LS7 LS8 IS0 aY ++ w_Y cI cJ cZ aY VY0 LY0 LY1 LY2 IY0 ++ w_P cI cJ cZ aP VP0 VP1 VP2 NP0 LP0 LP1 LP2 LP3 LP4 IP0 IP1 aS ++ w_P cI cJ cZ aQ VQ0 VQ1 VQ2 NQ0 LQ0 LQ1 LQ2 LQ3 LQ4 IQ0 IQ1 aS ++ w_T cI cJ cZ aT VT0 NT0 NT1 LT0 IT0 aS) s.heap.size = A at hD ⊢
  have hA : ∀ q : Nat, s.heap.size ≤ q → A q := fun q h => by rw [← hAe]; exact Or.inr h
  have hS : va_S A s.heap s.heap [] := va_S.rf
  have hl := lv_entry ([.ref (aH 0), .int x1]) (n := 2) (Nat.le_of_ble_eq_true rfl)
  rw [lg_entry_eq]
  generalize (lg_sl ([.ref (aH 0), .int x1]) ++ List.replicate (2 - (lg_sl ([.ref (aH 0), .int x1])).length) Slot.unset).toArray = ls at hl ⊢
  have hl : lv_has ls 2 [(0, .ref (aH 0)), (1, .int x1)] := hl
  generalize hR : f_HaulFlows_clash VH0 VT0 NT0 x1 = r0
  obtain ⟨H, locs, hHe, hle⟩ : ∃ (H : Heap) (locs : List Loc), s.heap = H ∧ [] = locs := ⟨_, _, rfl, rfl⟩
  have hP : va_P (dC, dI) vwCl (w_H cI cJ cZ aH VH0 aS aP aQ aT ++ w_S cI cJ cZ aS VS0 VS1 VS2 NS0 NS1 NS2 LS0 LS1 LS2 LS3 LS4 LS5 LS6 LS7 LS8 IS0 aY ++ w_Y cI cJ cZ aY VY0 LY0 LY1 LY2 IY0 ++ w_P cI cJ cZ aP VP0 VP1 VP2 NP0 LP0 LP1 LP2 LP3 LP4 IP0 IP1 aS ++ w_P cI cJ cZ aQ VQ0 VQ1 VQ2 NQ0 LQ0 LQ1 LQ2 LQ3 LQ4 IQ0 IQ1 aS ++ w_T cI cJ cZ aT VT0 NT0 NT1 LT0 IT0 aS) H := by rw [← hHe]; exact hP
  have hS : va_S A s.heap H locs := by rw [← hHe, ← hle]; exact hS
  refine hw_start hHe hle ?_
  unfold f_HaulFlows_clash at hR
  refine lv_aload_n hx hb d_HaulFlows_clash_0 rfl (lv_at hl 0 rfl) ?_
  refine va_get (D := (dC, dI)) (ci := 4) (v := .int (nI VH0)) (C := R_HaulFlows) (T := T_HaulFlows) (N := 5) hx hb hG in_HaulFlows hown hK hP 0 rfl rfl 4 (by decide) (hG _ m_200) (fun _ h9 => h9) rfl d_HaulFlows_clash_1 ?_
  refine lv_iconst (v := nI 2) hx hb d_HaulFlows_clash_4 (by decide) ?_
  refine hw_icmp_ne (tgt := 22) hx hb d_HaulFlows_clash_5 (by decide) (by omega) (by omega) (fun c5 => ?_) (fun c5 => ?_)
  · replace hR := (if_neg c5).symm.trans hR
    refine lv_iconst (v := (-1)) hx hb d_HaulFlows_clash_22 (by decide) ?_
    subst hR
    exact W.iret (v := (-1)) hx hb hr (fun t ht hW => ⟨⟨_, (), rfl, rfl, by rw [ht]; exact hP, va_K.moved hW.alike hK, hD⟩, hS.F ht⟩) hS.2.2 d_HaulFlows_clash_23
  · replace hR := (if_pos c5).symm.trans hR
    refine lv_iload_n hx hb d_HaulFlows_clash_8 rfl (lv_at hl 1 rfl) ?_
    refine lv_aload_n hx hb d_HaulFlows_clash_9 rfl (lv_at hl 0 rfl) ?_
    refine va_get (D := (dC, dI)) (ci := 4) (v := .ref (aT 0)) (C := R_HaulFlows) (T := T_HaulFlows) (N := 5) hx hb hG in_HaulFlows hown hK hP 0 rfl rfl 3 (by decide) (hG _ m_199) (fun _ h9 => h9) rfl d_HaulFlows_clash_10 ?_
    refine va_get (D := (dC, dI)) (ci := 1) (v := .int (nI VT0)) (C := R_Shortage) (T := T_Shortage) (N := 6) hx hb hG in_Shortage hown hK hP 38 rfl rfl 1 (by decide) (hG _ m_177) (fun _ h9 => h9) rfl d_HaulFlows_clash_13 ?_
    obtain ⟨y16, hy16, hR⟩ := hw_bind hR
    have hM := c_HaulFlows_isBelow l dC dI cI cJ cZ H.size x1 (nI VT0)
    rw [hy16] at hM
    refine hw_callSi (As := [.int x1, .int (nI VT0)]) (rest := []) (wr := w_H cI cJ cZ aH VH0 aS aP aQ aT ++ w_S cI cJ cZ aS VS0 VS1 VS2 NS0 NS1 NS2 LS0 LS1 LS2 LS3 LS4 LS5 LS6 LS7 LS8 IS0 aY ++ w_Y cI cJ cZ aY VY0 LY0 LY1 LY2 IY0 ++ w_P cI cJ cZ aP VP0 VP1 VP2 NP0 LP0 LP1 LP2 LP3 LP4 IP0 IP1 aS ++ w_P cI cJ cZ aQ VQ0 VQ1 VQ2 NQ0 LQ0 LQ1 LQ2 LQ3 LQ4 IQ0 IQ1 aS ++ w_T cI cJ cZ aT VT0 NT0 NT1 LT0 IT0 aS) ⟨hx, hb, hml, hown, hG⟩ hM (hw_cwS 2 hG m_220 m_221 m_1 m_222 rfl rfl (by decide +kernel) ⟨Nat.le_of_ble_eq_true rfl, Nat.le_of_ble_eq_true rfl⟩) hK hP hD hS hA [] [0, 1, 2, 3, 4, 5, 6, 7, 8, 9, 10, 11, 12, 13, 14, 15, 16, 17, 18, 19, 20, 21, 22, 23, 24, 25, 26, 27, 28, 29, 30, 31, 32, 33, 34, 35, 36, 37, 38, 39, 40, 41, 42] rfl rfl (by decide) (by decide) (by decide) rfl hl.1 rfl (Nat.le_of_ble_eq_true rfl) d_HaulFlows_clash_16 ⟨Nat.le_of_ble_eq_true rfl, Nat.le_of_ble_eq_true rfl⟩ (fun H locs hP hD hS => ?_)
    have hP : va_P (dC, dI) vwCl (w_H cI cJ cZ aH VH0 aS aP aQ aT ++ w_S cI cJ cZ aS VS0 VS1 VS2 NS0 NS1 NS2 LS0 LS1 LS2 LS3 LS4 LS5 LS6 LS7 LS8 IS0 aY ++ w_Y cI cJ cZ aY VY0 LY0 LY1 LY2 IY0 ++ w_P cI cJ cZ aP VP0 VP1 VP2 NP0 LP0 LP1 LP2 LP3 LP4 IP0 IP1 aS ++ w_P cI cJ cZ aQ VQ0 VQ1 VQ2 NQ0 LQ0 LQ1 LQ2 LQ3 LQ4 IQ0 IQ1 aS ++ w_T cI cJ cZ aT VT0 NT0 NT1 LT0 IT0 aS) H := hP
    have hD : va_D A (w_H cI cJ cZ aH VH0 aS aP aQ aT ++ w_S cI cJ cZ aS VS0 VS1 VS2 NS0 NS1 NS2 LS0 LS1 LS2 LS3 LS4 LS5 LS6 LS7 LS8 IS0 aY ++ w_Y cI cJ cZ aY VY0 LY0 LY1 LY2 IY0 ++ w_P cI cJ cZ aP VP0 VP1 VP2 NP0 LP0 LP1 LP2 LP3 LP4 IP0 IP1 aS ++ w_P cI cJ cZ aQ VQ0 VQ1 VQ2 NQ0 LQ0 LQ1 LQ2 LQ3 LQ4 IQ0 IQ1 aS ++ w_T cI cJ cZ aT VT0 NT0 NT1 LT0 IT0 aS) := hD
    have hbl16 := hp_below (x := x1) (n := VT0) (by omega)
    rw [hy16] at hbl16
    refine lv_if_ne (tgt := 24) hx hb d_HaulFlows_clash_19 (by decide) (fun c19 => ?_) (fun c19 => ?_)
    · replace hR := (if_neg c19).symm.trans hR
      obtain ⟨hna1, hnb1⟩ := hbl16 c19
      have en24_1 : nI (x1.toNatClampNeg) = x1 := hw_nat hna1
      have hl : lv_has ls 2 [(0, .ref (aH 0)), (1, .int (nI x1.toNatClampNeg))] := by rw [en24_1]; exact hl
      refine lv_aload_n hx hb d_HaulFlows_clash_24 rfl (lv_at hl 0 rfl) ?_
      refine va_get (D := (dC, dI)) (ci := 4) (v := .ref (aT 0)) (C := R_HaulFlows) (T := T_HaulFlows) (N := 5) hx hb hG in_HaulFlows hown hK hP 0 rfl rfl 3 (by decide) (hG _ m_199) (fun _ h9 => h9) rfl d_HaulFlows_clash_25 ?_
      refine va_get (D := (dC, dI)) (ci := 1) (v := .ref (aT 1)) (C := R_Shortage) (T := T_Shortage) (N := 6) hx hb hG in_Shortage hown hK hP 38 rfl rfl 2 (by decide) (hG _ m_179) (fun _ h9 => h9) rfl d_HaulFlows_clash_28 ?_
      refine lv_iload_n hx hb d_HaulFlows_clash_31 rfl (lv_at hl 1 rfl) ?_
      refine hw_nald (g := NT0) hx hb hK hP 39 0 rfl rfl (by decide) (by omega) d_HaulFlows_clash_32 ?_
      subst hR
      exact W.iret (v := nI (NT0 x1.toNatClampNeg)) hx hb hr (fun t ht hW => ⟨⟨_, (), rfl, rfl, by rw [ht]; exact hP, va_K.moved hW.alike hK, hD⟩, hS.F ht⟩) hS.2.2 d_HaulFlows_clash_33
    · replace hR := (if_pos c19).symm.trans hR
      refine lv_iconst (v := (-1)) hx hb d_HaulFlows_clash_22 (by decide) ?_
      subst hR
      exact W.iret (v := (-1)) hx hb hr (fun t ht hW => ⟨⟨_, (), rfl, rfl, by rw [ht]; exact hP, va_K.moved hW.alike hK, hD⟩, hS.F ht⟩) hS.2.2 d_HaulFlows_clash_23
def f_HaulFlows_closure (VH0 : Nat) (VS0 : Nat) (VS1 : Nat) (VS2 : Nat) (NS0 : Nat → Nat) (NS1 : Nat → Nat) (NS2 : Nat → Nat) (LS0 : Nat → Int64) (LS1 : Nat → Int64) (LS2 : Nat → Int64) (LS3 : Nat → Int64) (LS4 : Nat → Int64) (LS5 : Nat → Int64) (LS6 : Nat → Int64) (LS7 : Nat → Int64) (IS0 : Nat → Int32) (VY0 : Nat) (LY0 : Nat → Int64) (LY1 : Nat → Int64) (LY2 : Nat → Int64) (IY0 : Nat → Int32) (VP0 : Nat) (VP1 : Nat) (LP0 : Nat → Int64) (LP1 : Nat → Int64) (VQ0 : Nat) (VQ1 : Nat) (LQ0 : Nat → Int64) (LQ1 : Nat → Int64) (LQ2 : Nat → Int64) (LQ3 : Nat → Int64) (LQ4 : Nat → Int64) (IQ0 : Nat → Int32) (IQ1 : Nat → Int32) (x1 : Int32) (x2 : Int32) : Int64 × (Nat) × (Nat) × (Nat → Int64) × (Nat → Int64) × (Nat → Int64) × (Nat → Int64) × (Nat → Int64) × (Nat → Int32) × (Nat → Int32) :=
  if VH0 = 1 then (hh_bind (f_HaulFlows_isBelow x1 (nI VY0)) (fun y19 => if y19 = 0 then ((-1), VQ0, VQ1, LQ0, LQ1, LQ2, LQ3, LQ4, IQ0, IQ1) else (hh_bind (f_HaulFlows_isBelow x2 (nI 2)) (fun y27 => if y27 = 0 then ((-1), VQ0, VQ1, LQ0, LQ1, LQ2, LQ3, LQ4, IQ0, IQ1) else (hh_bind (f_Plan_makeCheapest LQ0 LQ1 LQ2 LQ3 LQ4 IQ0 IQ1 VS0 VS1 VS2 NS0 NS1 NS2 LS0 LS1 LS2 LS3 LS4 LS5 LS6 LS7 IS0 VY0 LY0 LY1 LY2 IY0 x1) (fun y42 => if y42.1 = 0 then (hh_bind (f_HaulFlows_partOfChange (-1) x2) (fun y72 => (y72, y42.2.1, y42.2.2.1, y42.2.2.2.1, y42.2.2.2.2.1, y42.2.2.2.2.2.1, y42.2.2.2.2.2.2.1, y42.2.2.2.2.2.2.2.1, y42.2.2.2.2.2.2.2.2.1, y42.2.2.2.2.2.2.2.2.2))) else (hh_bind (f_Plan_totalPrice y42.2.1 y42.2.2.1 y42.2.2.2.1 y42.2.2.2.2.1) (fun y54 => hh_bind (f_Plan_totalPrice VP0 VP1 LP0 LP1) (fun y61 => hh_bind (f_HaulFlows_partOfChange (y54 - y61) x2) (fun y72 => (y72, y42.2.1, y42.2.2.1, y42.2.2.2.1, y42.2.2.2.2.1, y42.2.2.2.2.2.1, y42.2.2.2.2.2.2.1, y42.2.2.2.2.2.2.2.1, y42.2.2.2.2.2.2.2.2.1, y42.2.2.2.2.2.2.2.2.2))))))))))) else ((-1), VQ0, VQ1, LQ0, LQ1, LQ2, LQ3, LQ4, IQ0, IQ1)
set_option maxHeartbeats 4000000 in
set_option maxRecDepth 100000 in
theorem c_HaulFlows_closure (l : Launch) (dC : Nat → ClassId) (dI : Nat → Nat → Nat) (cI cJ cZ : ClassId) (sz : Nat) (aH : Nat → Nat) (VH0 : Nat) (aS : Nat → Nat) (VS0 : Nat) (VS1 : Nat) (VS2 : Nat) (NS0 : Nat → Nat) (NS1 : Nat → Nat) (NS2 : Nat → Nat) (LS0 : Nat → Int64) (LS1 : Nat → Int64) (LS2 : Nat → Int64) (LS3 : Nat → Int64) (LS4 : Nat → Int64) (LS5 : Nat → Int64) (LS6 : Nat → Int64) (LS7 : Nat → Int64) (LS8 : Nat → Int64) (IS0 : Nat → Int32) (aY : Nat → Nat) (VY0 : Nat) (LY0 : Nat → Int64) (LY1 : Nat → Int64) (LY2 : Nat → Int64) (IY0 : Nat → Int32) (aP : Nat → Nat) (VP0 : Nat) (VP1 : Nat) (VP2 : Nat) (NP0 : Nat → Nat) (LP0 : Nat → Int64) (LP1 : Nat → Int64) (LP2 : Nat → Int64) (LP3 : Nat → Int64) (LP4 : Nat → Int64) (IP0 : Nat → Int32) (IP1 : Nat → Int32) (aQ : Nat → Nat) (VQ0 : Nat) (VQ1 : Nat) (VQ2 : Nat) (NQ0 : Nat → Nat) (LQ0 : Nat → Int64) (LQ1 : Nat → Int64) (LQ2 : Nat → Int64) (LQ3 : Nat → Int64) (LQ4 : Nat → Int64) (IQ0 : Nat → Int32) (IQ1 : Nat → Int32) (aT : Nat → Nat) (VT0 : Nat) (NT0 : Nat → Nat) (NT1 : Nat → Nat) (LT0 : Nat → Int64) (IT0 : Nat → Int32) (x1 : Int32) (x2 : Int32) (hc8 : VS0 ≤ 8) (hp4 : VS1 ≤ 4) (hf8 : VS2 ≤ 8) (hy6 : VY0 ≤ 6) (hk4 : ∀ i, NS0 i < 4) (hcw : ∀ i, NS1 i < 12) (hfw : ∀ i, NS2 i < 12) (hq : ∀ i, NP0 i < 21) (htq : ∀ i, NT1 i < 34) (hst : VH0 ≤ 2) (hpl : VH0 = 1 → VP0 = VS0 + VS1 ∧ VP1 = VS2) (hsf : VT0 ≤ 8) : hh_Cl l y_HaulFlows_closure u_HaulFlows_closure ({ frames := 5, cells := 0, slots := 0, locals := 127 }) (dC, dI) vwCl [(cI, .int), (cJ, .long), (cZ, .boolean)] (w_H cI cJ cZ aH VH0 aS aP aQ aT ++ w_S cI cJ cZ aS VS0 VS1 VS2 NS0 NS1 NS2 LS0 LS1 LS2 LS3 LS4 LS5 LS6 LS7 LS8 IS0 aY ++ w_Y cI cJ cZ aY VY0 LY0 LY1 LY2 IY0 ++ w_P cI cJ cZ aP VP0 VP1 VP2 NP0 LP0 LP1 LP2 LP3 LP4 IP0 IP1 aS ++ w_P cI cJ cZ aQ VQ0 VQ1 VQ2 NQ0 LQ0 LQ1 LQ2 LQ3 LQ4 IQ0 IQ1 aS ++ w_T cI cJ cZ aT VT0 NT0 NT1 LT0 IT0 aS) sz [.ref (aH 0), .int x1, .int x2] ((f_HaulFlows_closure VH0 VS0 VS1 VS2 NS0 NS1 NS2 LS0 LS1 LS2 LS3 LS4 LS5 LS6 LS7 IS0 VY0 LY0 LY1 LY2 IY0 VP0 VP1 LP0 LP1 VQ0 VQ1 LQ0 LQ1 LQ2 LQ3 LQ4 IQ0 IQ1 x1 x2).1) (w_H cI cJ cZ aH VH0 aS aP aQ aT ++ w_S cI cJ cZ aS VS0 VS1 VS2 NS0 NS1 NS2 LS0 LS1 LS2 LS3 LS4 LS5 LS6 LS7 LS8 IS0 aY ++ w_Y cI cJ cZ aY VY0 LY0 LY1 LY2 IY0 ++ w_P cI cJ cZ aP VP0 VP1 VP2 NP0 LP0 LP1 LP2 LP3 LP4 IP0 IP1 aS ++ w_P cI cJ cZ aQ ((f_HaulFlows_closure VH0 VS0 VS1 VS2 NS0 NS1 NS2 LS0 LS1 LS2 LS3 LS4 LS5 LS6 LS7 IS0 VY0 LY0 LY1 LY2 IY0 VP0 VP1 LP0 LP1 VQ0 VQ1 LQ0 LQ1 LQ2 LQ3 LQ4 IQ0 IQ1 x1 x2).2.1) ((f_HaulFlows_closure VH0 VS0 VS1 VS2 NS0 NS1 NS2 LS0 LS1 LS2 LS3 LS4 LS5 LS6 LS7 IS0 VY0 LY0 LY1 LY2 IY0 VP0 VP1 LP0 LP1 VQ0 VQ1 LQ0 LQ1 LQ2 LQ3 LQ4 IQ0 IQ1 x1 x2).2.2.1) VQ2 NQ0 ((f_HaulFlows_closure VH0 VS0 VS1 VS2 NS0 NS1 NS2 LS0 LS1 LS2 LS3 LS4 LS5 LS6 LS7 IS0 VY0 LY0 LY1 LY2 IY0 VP0 VP1 LP0 LP1 VQ0 VQ1 LQ0 LQ1 LQ2 LQ3 LQ4 IQ0 IQ1 x1 x2).2.2.2.1) ((f_HaulFlows_closure VH0 VS0 VS1 VS2 NS0 NS1 NS2 LS0 LS1 LS2 LS3 LS4 LS5 LS6 LS7 IS0 VY0 LY0 LY1 LY2 IY0 VP0 VP1 LP0 LP1 VQ0 VQ1 LQ0 LQ1 LQ2 LQ3 LQ4 IQ0 IQ1 x1 x2).2.2.2.2.1) ((f_HaulFlows_closure VH0 VS0 VS1 VS2 NS0 NS1 NS2 LS0 LS1 LS2 LS3 LS4 LS5 LS6 LS7 IS0 VY0 LY0 LY1 LY2 IY0 VP0 VP1 LP0 LP1 VQ0 VQ1 LQ0 LQ1 LQ2 LQ3 LQ4 IQ0 IQ1 x1 x2).2.2.2.2.2.1) ((f_HaulFlows_closure VH0 VS0 VS1 VS2 NS0 NS1 NS2 LS0 LS1 LS2 LS3 LS4 LS5 LS6 LS7 IS0 VY0 LY0 LY1 LY2 IY0 VP0 VP1 LP0 LP1 VQ0 VQ1 LQ0 LQ1 LQ2 LQ3 LQ4 IQ0 IQ1 x1 x2).2.2.2.2.2.2.1) ((f_HaulFlows_closure VH0 VS0 VS1 VS2 NS0 NS1 NS2 LS0 LS1 LS2 LS3 LS4 LS5 LS6 LS7 IS0 VY0 LY0 LY1 LY2 IY0 VP0 VP1 LP0 LP1 VQ0 VQ1 LQ0 LQ1 LQ2 LQ3 LQ4 IQ0 IQ1 x1 x2).2.2.2.2.2.2.2.1) ((f_HaulFlows_closure VH0 VS0 VS1 VS2 NS0 NS1 NS2 LS0 LS1 LS2 LS3 LS4 LS5 LS6 LS7 IS0 VY0 LY0 LY1 LY2 IY0 VP0 VP1 LP0 LP1 VQ0 VQ1 LQ0 LQ1 LQ2 LQ3 LQ4 IQ0 IQ1 x1 x2).2.2.2.2.2.2.2.2.1) ((f_HaulFlows_closure VH0 VS0 VS1 VS2 NS0 NS1 NS2 LS0 LS1 LS2 LS3 LS4 LS5 LS6 LS7 IS0 VY0 LY0 LY1 LY2 IY0 VP0 VP1 LP0 LP1 VQ0 VQ1 LQ0 LQ1 LQ2 LQ3 LQ4 IQ0 IQ1 x1 x2).2.2.2.2.2.2.2.2.2) aS ++ w_T cI cJ cZ aT VT0 NT0 NT1 LT0 IT0 aS) 0 0 := by
  unfold hh_Cl
  refine Met.ofW (cc := b_HaulFlows_closure) (maxL := 4) (ret := (some .long)) (by decide) rfl ?_
  intro p e s m args below meth c s₁ B hml hv
  obtain ⟨rfl, hsz, hP, hK, hD0⟩ := hv
  have hx := B.exec
  have hb := B.bytes
  have hr := B.returns
  have hts := atoms_spec (ws := u_HaulFlows_closure) B.pre
  have hG : ∀ w ∈ wG, w.before ([.ref (aH 0), .int x1, .int x2]).toArray s = true := fun w h => hts w (List.mem_cons_of_mem _ h)
  have hown : s.vm.findClass R_HaulFlows = some m.cls := findClass_of_methodNamed B.named
  have hlocks := B.notSynchronized
  subst hsz
  have hD := hD0.self (sz := s.heap.size)
  generalize hAe : va_A (w_H cI cJ cZ aH VH0 aS aP aQ aT ++ w_S cI cJ cZ aS VS0 VS1 VS2 NS0 NS1 NS2 LS0 LS1 LS2 LS3 LS4 LS5 LS6 LS7 LS8 IS0 aY ++ w_Y cI cJ cZ aY VY0 LY0 LY1 LY2 IY0 ++ w_P cI cJ cZ aP VP0 VP1 VP2 NP0 LP0 LP1 LP2 LP3 LP4 IP0 IP1 aS ++ w_P cI cJ cZ aQ VQ0 VQ1 VQ2 NQ0 LQ0 LQ1 LQ2 LQ3 LQ4 IQ0 IQ1 aS ++ w_T cI cJ cZ aT VT0 NT0 NT1 LT0 IT0 aS) s.heap.size = A at hD ⊢
  have hA : ∀ q : Nat, s.heap.size ≤ q → A q := fun q h => by rw [← hAe]; exact Or.inr h
  have hS : va_S A s.heap s.heap [] := va_S.rf
  have hl := lv_entry ([.ref (aH 0), .int x1, .int x2]) (n := 4) (Nat.le_of_ble_eq_true rfl)
  rw [lg_entry_eq]
  generalize (lg_sl ([.ref (aH 0), .int x1, .int x2]) ++ List.replicate (4 - (lg_sl ([.ref (aH 0), .int x1, .int x2])).length) Slot.unset).toArray = ls at hl ⊢
  have hl : lv_has ls 4 [(0, .ref (aH 0)), (1, .int x1), (2, .int x2)] := hl
  generalize hR : f_HaulFlows_closure VH0 VS0 VS1 VS2 NS0 NS1 NS2 LS0 LS1 LS2 LS3 LS4 LS5 LS6 LS7 IS0 VY0 LY0 LY1 LY2 IY0 VP0 VP1 LP0 LP1 VQ0 VQ1 LQ0 LQ1 LQ2 LQ3 LQ4 IQ0 IQ1 x1 x2 = r0
  obtain ⟨H, locs, hHe, hle⟩ : ∃ (H : Heap) (locs : List Loc), s.heap = H ∧ [] = locs := ⟨_, _, rfl, rfl⟩
  have hP : va_P (dC, dI) vwCl (w_H cI cJ cZ aH VH0 aS aP aQ aT ++ w_S cI cJ cZ aS VS0 VS1 VS2 NS0 NS1 NS2 LS0 LS1 LS2 LS3 LS4 LS5 LS6 LS7 LS8 IS0 aY ++ w_Y cI cJ cZ aY VY0 LY0 LY1 LY2 IY0 ++ w_P cI cJ cZ aP VP0 VP1 VP2 NP0 LP0 LP1 LP2 LP3 LP4 IP0 IP1 aS ++ w_P cI cJ cZ aQ VQ0 VQ1 VQ2 NQ0 LQ0 LQ1 LQ2 LQ3 LQ4 IQ0 IQ1 aS ++ w_T cI cJ cZ aT VT0 NT0 NT1 LT0 IT0 aS) H := by rw [← hHe]; exact hP
  have hS : va_S A s.heap H locs := by rw [← hHe, ← hle]; exact hS
  refine hw_start hHe hle ?_
  unfold f_HaulFlows_closure at hR
  refine lv_aload_n hx hb d_HaulFlows_closure_0 rfl (lv_at hl 0 rfl) ?_
  refine va_get (D := (dC, dI)) (ci := 4) (v := .int (nI VH0)) (C := R_HaulFlows) (T := T_HaulFlows) (N := 5) hx hb hG in_HaulFlows hown hK hP 0 rfl rfl 4 (by decide) (hG _ m_200) (fun _ h9 => h9) rfl d_HaulFlows_closure_1 ?_
  refine lv_iconst (v := nI 1) hx hb d_HaulFlows_closure_4 (by decide) ?_
  refine hw_icmp_ne (tgt := 33) hx hb d_HaulFlows_closure_5 (by decide) (by omega) (by omega) (fun c5 => ?_) (fun c5 => ?_)
  · replace hR := (if_neg c5).symm.trans hR
    refine lv_ldc2 (v := (-1)) hx hb hown (hG _ m_295) d_HaulFlows_closure_33 ?_
    subst hR
    exact W.lret (v := (-1)) hx hb hr (fun t ht hW => ⟨⟨_, (), rfl, rfl, by rw [ht]; exact hP, va_K.moved hW.alike hK, hD⟩, hS.F ht⟩) hS.2.2 d_HaulFlows_closure_36
  · replace hR := (if_pos c5).symm.trans hR
    obtain ⟨hpl0, hpl1⟩ := hpl c5
    refine lv_iload_n hx hb d_HaulFlows_closure_8 rfl (lv_at hl 1 rfl) ?_
    refine lv_aload_n hx hb d_HaulFlows_closure_9 rfl (lv_at hl 0 rfl) ?_
    refine va_get (D := (dC, dI)) (ci := 4) (v := .ref (aS 0)) (C := R_HaulFlows) (T := T_HaulFlows) (N := 5) hx hb hG in_HaulFlows hown hK hP 0 rfl rfl 0 (by decide) (hG _ m_196) (fun _ h9 => h9) rfl d_HaulFlows_closure_10 ?_
    refine va_get (D := (dC, dI)) (ci := 2) (v := .ref (aY 0)) (C := R_Site) (T := T_Site) (N := 17) hx hb hG in_Site hown hK hP 1 rfl rfl 3 (by decide) (hG _ m_65) (fun _ h9 => h9) rfl d_HaulFlows_closure_13 ?_
    refine va_get (D := (dC, dI)) (ci := 3) (v := .int (nI VY0)) (C := R_Ways) (T := T_Ways) (N := 5) hx hb hG in_Ways hown hK hP 15 rfl rfl 0 (by decide) (hG _ m_34) (fun _ h9 => h9) rfl d_HaulFlows_closure_16 ?_
    obtain ⟨y19, hy19, hR⟩ := hw_bind hR
    have hM := c_HaulFlows_isBelow l dC dI cI cJ cZ H.size x1 (nI VY0)
    rw [hy19] at hM
    refine hw_callSi (As := [.int x1, .int (nI VY0)]) (rest := []) (wr := w_H cI cJ cZ aH VH0 aS aP aQ aT ++ w_S cI cJ cZ aS VS0 VS1 VS2 NS0 NS1 NS2 LS0 LS1 LS2 LS3 LS4 LS5 LS6 LS7 LS8 IS0 aY ++ w_Y cI cJ cZ aY VY0 LY0 LY1 LY2 IY0 ++ w_P cI cJ cZ aP VP0 VP1 VP2 NP0 LP0 LP1 LP2 LP3 LP4 IP0 IP1 aS ++ w_P cI cJ cZ aQ VQ0 VQ1 VQ2 NQ0 LQ0 LQ1 LQ2 LQ3 LQ4 IQ0 IQ1 aS ++ w_T cI cJ cZ aT VT0 NT0 NT1 LT0 IT0 aS) ⟨hx, hb, hml, hown, hG⟩ hM (hw_cwS 2 hG m_220 m_221 m_1 m_222 rfl rfl (by decide +kernel) ⟨Nat.le_of_ble_eq_true rfl, Nat.le_of_ble_eq_true rfl⟩) hK hP hD hS hA [] [0, 1, 2, 3, 4, 5, 6, 7, 8, 9, 10, 11, 12, 13, 14, 15, 16, 17, 18, 19, 20, 21, 22, 23, 24, 25, 26, 27, 28, 29, 30, 31, 32, 33, 34, 35, 36, 37, 38, 39, 40, 41, 42] rfl rfl (by decide) (by decide) (by decide) rfl hl.1 rfl (Nat.le_of_ble_eq_true rfl) d_HaulFlows_closure_19 ⟨Nat.le_of_ble_eq_true rfl, Nat.le_of_ble_eq_true rfl⟩ (fun H locs hP hD hS => ?_)
    have hP : va_P (dC, dI) vwCl (w_H cI cJ cZ aH VH0 aS aP aQ aT ++ w_S cI cJ cZ aS VS0 VS1 VS2 NS0 NS1 NS2 LS0 LS1 LS2 LS3 LS4 LS5 LS6 LS7 LS8 IS0 aY ++ w_Y cI cJ cZ aY VY0 LY0 LY1 LY2 IY0 ++ w_P cI cJ cZ aP VP0 VP1 VP2 NP0 LP0 LP1 LP2 LP3 LP4 IP0 IP1 aS ++ w_P cI cJ cZ aQ VQ0 VQ1 VQ2 NQ0 LQ0 LQ1 LQ2 LQ3 LQ4 IQ0 IQ1 aS ++ w_T cI cJ cZ aT VT0 NT0 NT1 LT0 IT0 aS) H := hP
    have hD : va_D A (w_H cI cJ cZ aH VH0 aS aP aQ aT ++ w_S cI cJ cZ aS VS0 VS1 VS2 NS0 NS1 NS2 LS0 LS1 LS2 LS3 LS4 LS5 LS6 LS7 LS8 IS0 aY ++ w_Y cI cJ cZ aY VY0 LY0 LY1 LY2 IY0 ++ w_P cI cJ cZ aP VP0 VP1 VP2 NP0 LP0 LP1 LP2 LP3 LP4 IP0 IP1 aS ++ w_P cI cJ cZ aQ VQ0 VQ1 VQ2 NQ0 LQ0 LQ1 LQ2 LQ3 LQ4 IQ0 IQ1 aS ++ w_T cI cJ cZ aT VT0 NT0 NT1 LT0 IT0 aS) := hD
    have hbl19 := hp_below (x := x1) (n := VY0) (by omega)
    rw [hy19] at hbl19
    refine lv_if_eq (tgt := 33) hx hb d_HaulFlows_closure_22 (by decide) (fun c22 => ?_) (fun c22 => ?_)
    · replace hR := (if_pos c22).symm.trans hR
      refine lv_ldc2 (v := (-1)) hx hb hown (hG _ m_295) d_HaulFlows_closure_33 ?_
      subst hR
      exact W.lret (v := (-1)) hx hb hr (fun t ht hW => ⟨⟨_, (), rfl, rfl, by rw [ht]; exact hP, va_K.moved hW.alike hK, hD⟩, hS.F ht⟩) hS.2.2 d_HaulFlows_closure_36
    · replace hR := (if_neg c22).symm.trans hR
      refine lv_iload_n hx hb d_HaulFlows_closure_25 rfl (lv_at hl 2 rfl) ?_
      refine lv_iconst (v := nI 2) hx hb d_HaulFlows_closure_26 (by decide) ?_
      obtain ⟨y27, hy27, hR⟩ := hw_bind hR
      have hM := c_HaulFlows_isBelow l dC dI cI cJ cZ H.size x2 (nI 2)
      rw [hy27] at hM
      refine hw_callSi (As := [.int x2, .int (nI 2)]) (rest := []) (wr := w_H cI cJ cZ aH VH0 aS aP aQ aT ++ w_S cI cJ cZ aS VS0 VS1 VS2 NS0 NS1 NS2 LS0 LS1 LS2 LS3 LS4 LS5 LS6 LS7 LS8 IS0 aY ++ w_Y cI cJ cZ aY VY0 LY0 LY1 LY2 IY0 ++ w_P cI cJ cZ aP VP0 VP1 VP2 NP0 LP0 LP1 LP2 LP3 LP4 IP0 IP1 aS ++ w_P cI cJ cZ aQ VQ0 VQ1 VQ2 NQ0 LQ0 LQ1 LQ2 LQ3 LQ4 IQ0 IQ1 aS ++ w_T cI cJ cZ aT VT0 NT0 NT1 LT0 IT0 aS) ⟨hx, hb, hml, hown, hG⟩ hM (hw_cwS 2 hG m_220 m_221 m_1 m_222 rfl rfl (by decide +kernel) ⟨Nat.le_of_ble_eq_true rfl, Nat.le_of_ble_eq_true rfl⟩) hK hP hD hS hA [] [0, 1, 2, 3, 4, 5, 6, 7, 8, 9, 10, 11, 12, 13, 14, 15, 16, 17, 18, 19, 20, 21, 22, 23, 24, 25, 26, 27, 28, 29, 30, 31, 32, 33, 34, 35, 36, 37, 38, 39, 40, 41, 42] rfl rfl (by decide) (by decide) (by decide) rfl hl.1 rfl (Nat.le_of_ble_eq_true rfl) d_HaulFlows_closure_27 ⟨Nat.le_of_ble_eq_true rfl, Nat.le_of_ble_eq_true rfl⟩ (fun H locs hP hD hS => ?_)
      have hP : va_P (dC, dI) vwCl (w_H cI cJ cZ aH VH0 aS aP aQ aT ++ w_S cI cJ cZ aS VS0 VS1 VS2 NS0 NS1 NS2 LS0 LS1 LS2 LS3 LS4 LS5 LS6 LS7 LS8 IS0 aY ++ w_Y cI cJ cZ aY VY0 LY0 LY1 LY2 IY0 ++ w_P cI cJ cZ aP VP0 VP1 VP2 NP0 LP0 LP1 LP2 LP3 LP4 IP0 IP1 aS ++ w_P cI cJ cZ aQ VQ0 VQ1 VQ2 NQ0 LQ0 LQ1 LQ2 LQ3 LQ4 IQ0 IQ1 aS ++ w_T cI cJ cZ aT VT0 NT0 NT1 LT0 IT0 aS) H := hP
      have hD : va_D A (w_H cI cJ cZ aH VH0 aS aP aQ aT ++ w_S cI cJ cZ aS VS0 VS1 VS2 NS0 NS1 NS2 LS0 LS1 LS2 LS3 LS4 LS5 LS6 LS7 LS8 IS0 aY ++ w_Y cI cJ cZ aY VY0 LY0 LY1 LY2 IY0 ++ w_P cI cJ cZ aP VP0 VP1 VP2 NP0 LP0 LP1 LP2 LP3 LP4 IP0 IP1 aS ++ w_P cI cJ cZ aQ VQ0 VQ1 VQ2 NQ0 LQ0 LQ1 LQ2 LQ3 LQ4 IQ0 IQ1 aS ++ w_T cI cJ cZ aT VT0 NT0 NT1 LT0 IT0 aS) := hD
      have hbl27 := hp_below (x := x2) (n := 2) (by omega)
      rw [hy27] at hbl27
      refine lv_if_ne (tgt := 37) hx hb d_HaulFlows_closure_30 (by decide) (fun c30 => ?_) (fun c30 => ?_)
      · replace hR := (if_neg c30).symm.trans hR
        refine lv_aload_n hx hb d_HaulFlows_closure_37 rfl (lv_at hl 0 rfl) ?_
        refine va_get (D := (dC, dI)) (ci := 4) (v := .ref (aQ 0)) (C := R_HaulFlows) (T := T_HaulFlows) (N := 5) hx hb hG in_HaulFlows hown hK hP 0 rfl rfl 2 (by decide) (hG _ m_198) (fun _ h9 => h9) rfl d_HaulFlows_closure_38 ?_
        refine lv_iload_n hx hb d_HaulFlows_closure_41 rfl (lv_at hl 1 rfl) ?_
        obtain ⟨y42, hy42, hR⟩ := hw_bind hR
        have hM := c_Plan_makeCheapest l dC dI cI cJ cZ H.size aQ VQ0 VQ1 VQ2 NQ0 LQ0 LQ1 LQ2 LQ3 LQ4 IQ0 IQ1 aS VS0 VS1 VS2 NS0 NS1 NS2 LS0 LS1 LS2 LS3 LS4 LS5 LS6 LS7 LS8 IS0 aY VY0 LY0 LY1 LY2 IY0 x1 (by first | assumption | omega) (by first | assumption | omega) (by first | assumption | omega) (by first | assumption | omega) (by first | assumption | omega) (by first | assumption | omega) (by first | assumption | omega)
        rw [hy42] at hM
        refine hw_callVi (As := [.int x1]) (rest := []) (wr := w_H cI cJ cZ aH VH0 aS aP aQ aT ++ w_P cI cJ cZ aP VP0 VP1 VP2 NP0 LP0 LP1 LP2 LP3 LP4 IP0 IP1 aS ++ w_T cI cJ cZ aT VT0 NT0 NT1 LT0 IT0 aS) ⟨hx, hb, hml, hown, hG⟩ hM (hw_cwV 1 hG m_372 m_373 m_374 m_5 m_375 rfl rfl (by decide +kernel) ⟨Nat.le_of_ble_eq_true rfl, Nat.le_of_ble_eq_true rfl⟩) hK hP hD hS hA [29, 30, 31, 32, 33, 34, 35, 36, 37, 1, 2, 3, 4, 5, 6, 7, 8, 9, 10, 11, 12, 13, 14, 15, 16, 17, 18, 19] [0, 20, 21, 22, 23, 24, 25, 26, 27, 28, 38, 39, 40, 41, 42] rfl rfl (by decide) (by decide) (by decide) (hw_recv hK hP 29 rfl rfl) rfl hl.1 rfl (Nat.le_of_ble_eq_true rfl) d_HaulFlows_closure_42 ⟨Nat.le_of_ble_eq_true rfl, Nat.le_of_ble_eq_true rfl⟩ (fun H locs hP hD hS => ?_)
        have hP : va_P (dC, dI) vwCl (w_H cI cJ cZ aH VH0 aS aP aQ aT ++ w_S cI cJ cZ aS VS0 VS1 VS2 NS0 NS1 NS2 LS0 LS1 LS2 LS3 LS4 LS5 LS6 LS7 LS8 IS0 aY ++ w_Y cI cJ cZ aY VY0 LY0 LY1 LY2 IY0 ++ w_P cI cJ cZ aP VP0 VP1 VP2 NP0 LP0 LP1 LP2 LP3 LP4 IP0 IP1 aS ++ w_P cI cJ cZ aQ y42.2.1 y42.2.2.1 VQ2 NQ0 y42.2.2.2.1 y42.2.2.2.2.1 y42.2.2.2.2.2.1 y42.2.2.2.2.2.2.1 y42.2.2.2.2.2.2.2.1 y42.2.2.2.2.2.2.2.2.1 y42.2.2.2.2.2.2.2.2.2 aS ++ w_T cI cJ cZ aT VT0 NT0 NT1 LT0 IT0 aS) H := hP.sub [0, 24, 25, 26, 27, 28, 29, 30, 31, 32, 33, 34, 35, 36, 37, 38, 39, 40, 41, 42, 1, 2, 3, 4, 5, 6, 7, 8, 9, 15, 16, 17, 18, 19, 20, 21, 22, 23, 10, 11, 12, 13, 14] rfl
        have hD : va_D A (w_H cI cJ cZ aH VH0 aS aP aQ aT ++ w_S cI cJ cZ aS VS0 VS1 VS2 NS0 NS1 NS2 LS0 LS1 LS2 LS3 LS4 LS5 LS6 LS7 LS8 IS0 aY ++ w_Y cI cJ cZ aY VY0 LY0 LY1 LY2 IY0 ++ w_P cI cJ cZ aP VP0 VP1 VP2 NP0 LP0 LP1 LP2 LP3 LP4 IP0 IP1 aS ++ w_P cI cJ cZ aQ y42.2.1 y42.2.2.1 VQ2 NQ0 y42.2.2.2.1 y42.2.2.2.2.1 y42.2.2.2.2.2.1 y42.2.2.2.2.2.2.1 y42.2.2.2.2.2.2.2.1 y42.2.2.2.2.2.2.2.2.1 y42.2.2.2.2.2.2.2.2.2 aS ++ w_T cI cJ cZ aT VT0 NT0 NT1 LT0 IT0 aS) := hD.sub [0, 24, 25, 26, 27, 28, 29, 30, 31, 32, 33, 34, 35, 36, 37, 38, 39, 40, 41, 42, 1, 2, 3, 4, 5, 6, 7, 8, 9, 15, 16, 17, 18, 19, 20, 21, 22, 23, 10, 11, 12, 13, 14] (by decide) rfl
        have hmc42 := f_Plan_makeCheapest_vs LQ0 LQ1 LQ2 LQ3 LQ4 IQ0 IQ1 VS0 VS1 VS2 NS0 NS1 NS2 LS0 LS1 LS2 LS3 LS4 LS5 LS6 LS7 IS0 VY0 LY0 LY1 LY2 IY0 x1
        rw [hy42] at hmc42
        have hmc42a := hmc42.1
        have hmc42b := hmc42.2
        refine lv_istore_n (lv' := [(3, .int y42.1), (0, .ref (aH 0)), (1, .int x1), (2, .int x2)]) hx hb d_HaulFlows_closure_45 rfl hl (by decide) rfl (fun ls hl => ?_)
        refine lv_iload_n hx hb d_HaulFlows_closure_46 rfl (lv_at hl 0 rfl) ?_
        refine lv_if_eq (tgt := 68) hx hb d_HaulFlows_closure_47 (by decide) (fun c47 => ?_) (fun c47 => ?_)
        · replace hR := (if_pos c47).symm.trans hR
          refine lv_ldc2 (v := (-1)) hx hb hown (hG _ m_295) d_HaulFlows_closure_68 ?_
          refine lv_iload_n hx hb d_HaulFlows_closure_71 rfl (lv_at hl 3 rfl) ?_
          obtain ⟨y72, hy72, hR⟩ := hw_bind hR
          have hM := c_HaulFlows_partOfChange l dC dI cI cJ cZ H.size (-1) x2
          rw [hy72] at hM
          refine hw_callSl (As := [.long (-1), .int x2]) (rest := []) (wr := w_H cI cJ cZ aH VH0 aS aP aQ aT ++ w_S cI cJ cZ aS VS0 VS1 VS2 NS0 NS1 NS2 LS0 LS1 LS2 LS3 LS4 LS5 LS6 LS7 LS8 IS0 aY ++ w_Y cI cJ cZ aY VY0 LY0 LY1 LY2 IY0 ++ w_P cI cJ cZ aP VP0 VP1 VP2 NP0 LP0 LP1 LP2 LP3 LP4 IP0 IP1 aS ++ w_P cI cJ cZ aQ y42.2.1 y42.2.2.1 VQ2 NQ0 y42.2.2.2.1 y42.2.2.2.2.1 y42.2.2.2.2.2.1 y42.2.2.2.2.2.2.1 y42.2.2.2.2.2.2.2.1 y42.2.2.2.2.2.2.2.2.1 y42.2.2.2.2.2.2.2.2.2 aS ++ w_T cI cJ cZ aT VT0 NT0 NT1 LT0 IT0 aS) ⟨hx, hb, hml, hown, hG⟩ hM (hw_cwS 2 hG m_353 m_354 m_1 m_355 rfl rfl (by decide +kernel) ⟨Nat.le_of_ble_eq_true rfl, Nat.le_of_ble_eq_true rfl⟩) hK hP hD hS hA [] [0, 1, 2, 3, 4, 5, 6, 7, 8, 9, 10, 11, 12, 13, 14, 15, 16, 17, 18, 19, 20, 21, 22, 23, 24, 25, 26, 27, 28, 29, 30, 31, 32, 33, 34, 35, 36, 37, 38, 39, 40, 41, 42] rfl rfl (by decide) (by decide) (by decide) rfl hl.1 rfl (Nat.le_of_ble_eq_true rfl) d_HaulFlows_closure_72 ⟨Nat.le_of_ble_eq_true rfl, Nat.le_of_ble_eq_true rfl⟩ (fun H locs hP hD hS => ?_)
          have hP : va_P (dC, dI) vwCl (w_H cI cJ cZ aH VH0 aS aP aQ aT ++ w_S cI cJ cZ aS VS0 VS1 VS2 NS0 NS1 NS2 LS0 LS1 LS2 LS3 LS4 LS5 LS6 LS7 LS8 IS0 aY ++ w_Y cI cJ cZ aY VY0 LY0 LY1 LY2 IY0 ++ w_P cI cJ cZ aP VP0 VP1 VP2 NP0 LP0 LP1 LP2 LP3 LP4 IP0 IP1 aS ++ w_P cI cJ cZ aQ y42.2.1 y42.2.2.1 VQ2 NQ0 y42.2.2.2.1 y42.2.2.2.2.1 y42.2.2.2.2.2.1 y42.2.2.2.2.2.2.1 y42.2.2.2.2.2.2.2.1 y42.2.2.2.2.2.2.2.2.1 y42.2.2.2.2.2.2.2.2.2 aS ++ w_T cI cJ cZ aT VT0 NT0 NT1 LT0 IT0 aS) H := hP
          have hD : va_D A (w_H cI cJ cZ aH VH0 aS aP aQ aT ++ w_S cI cJ cZ aS VS0 VS1 VS2 NS0 NS1 NS2 LS0 LS1 LS2 LS3 LS4 LS5 LS6 LS7 LS8 IS0 aY ++ w_Y cI cJ cZ aY VY0 LY0 LY1 LY2 IY0 ++ w_P cI cJ cZ aP VP0 VP1 VP2 NP0 LP0 LP1 LP2 LP3 LP4 IP0 IP1 aS ++ w_P cI cJ cZ aQ y42.2.1 y42.2.2.1 VQ2 NQ0 y42.2.2.2.1 y42.2.2.2.2.1 y42.2.2.2.2.2.1 y42.2.2.2.2.2.2.1 y42.2.2.2.2.2.2.2.1 y42.2.2.2.2.2.2.2.2.1 y42.2.2.2.2.2.2.2.2.2 aS ++ w_T cI cJ cZ aT VT0 NT0 NT1 LT0 IT0 aS) := hD
          subst hR
          exact W.lret (v := y72) hx hb hr (fun t ht hW => ⟨⟨_, (), rfl, rfl, by rw [ht]; exact hP, va_K.moved hW.alike hK, hD⟩, hS.F ht⟩) hS.2.2 d_HaulFlows_closure_75
        · replace hR := (if_neg c47).symm.trans hR
          refine lv_aload_n hx hb d_HaulFlows_closure_50 rfl (lv_at hl 1 rfl) ?_
          refine va_get (D := (dC, dI)) (ci := 4) (v := .ref (aQ 0)) (C := R_HaulFlows) (T := T_HaulFlows) (N := 5) hx hb hG in_HaulFlows hown hK hP 0 rfl rfl 2 (by decide) (hG _ m_198) (fun _ h9 => h9) rfl d_HaulFlows_closure_51 ?_
          obtain ⟨y54, hy54, hR⟩ := hw_bind hR
          have hM := c_Plan_totalPrice l dC dI cI cJ cZ H.size aQ y42.2.1 y42.2.2.1 VQ2 NQ0 y42.2.2.2.1 y42.2.2.2.2.1 y42.2.2.2.2.2.1 y42.2.2.2.2.2.2.1 y42.2.2.2.2.2.2.2.1 y42.2.2.2.2.2.2.2.2.1 y42.2.2.2.2.2.2.2.2.2 aS VS0 VS1 VS2 NS0 NS1 NS2 LS0 LS1 LS2 LS3 LS4 LS5 LS6 LS7 LS8 IS0 aY VY0 LY0 LY1 LY2 IY0 (by first | assumption | omega) (by first | assumption | omega)
          rw [hy54] at hM
          refine hw_callVl (As := []) (rest := []) (wr := w_H cI cJ cZ aH VH0 aS aP aQ aT ++ w_P cI cJ cZ aP VP0 VP1 VP2 NP0 LP0 LP1 LP2 LP3 LP4 IP0 IP1 aS ++ w_T cI cJ cZ aT VT0 NT0 NT1 LT0 IT0 aS) ⟨hx, hb, hml, hown, hG⟩ hM (hw_cwV 0 hG m_308 m_309 m_310 m_5 m_311 rfl rfl (by decide +kernel) ⟨Nat.le_of_ble_eq_true rfl, Nat.le_of_ble_eq_true rfl⟩) hK hP hD hS hA [29, 30, 31, 32, 33, 34, 35, 36, 37, 1, 2, 3, 4, 5, 6, 7, 8, 9, 10, 11, 12, 13, 14, 15, 16, 17, 18, 19] [0, 20, 21, 22, 23, 24, 25, 26, 27, 28, 38, 39, 40, 41, 42] rfl rfl (by decide) (by decide) (by decide) (hw_recv hK hP 29 rfl rfl) rfl hl.1 rfl (Nat.le_of_ble_eq_true rfl) d_HaulFlows_closure_54 ⟨Nat.le_of_ble_eq_true rfl, Nat.le_of_ble_eq_true rfl⟩ (fun H locs hP hD hS => ?_)
          have hP : va_P (dC, dI) vwCl (w_H cI cJ cZ aH VH0 aS aP aQ aT ++ w_S cI cJ cZ aS VS0 VS1 VS2 NS0 NS1 NS2 LS0 LS1 LS2 LS3 LS4 LS5 LS6 LS7 LS8 IS0 aY ++ w_Y cI cJ cZ aY VY0 LY0 LY1 LY2 IY0 ++ w_P cI cJ cZ aP VP0 VP1 VP2 NP0 LP0 LP1 LP2 LP3 LP4 IP0 IP1 aS ++ w_P cI cJ cZ aQ y42.2.1 y42.2.2.1 VQ2 NQ0 y42.2.2.2.1 y42.2.2.2.2.1 y42.2.2.2.2.2.1 y42.2.2.2.2.2.2.1 y42.2.2.2.2.2.2.2.1 y42.2.2.2.2.2.2.2.2.1 y42.2.2.2.2.2.2.2.2.2 aS ++ w_T cI cJ cZ aT VT0 NT0 NT1 LT0 IT0 aS) H := hP.sub [0, 24, 25, 26, 27, 28, 29, 30, 31, 32, 33, 34, 35, 36, 37, 38, 39, 40, 41, 42, 1, 2, 3, 4, 5, 6, 7, 8, 9, 15, 16, 17, 18, 19, 20, 21, 22, 23, 10, 11, 12, 13, 14] rfl
          have hD : va_D A (w_H cI cJ cZ aH VH0 aS aP aQ aT ++ w_S cI cJ cZ aS VS0 VS1 VS2 NS0 NS1 NS2 LS0 LS1 LS2 LS3 LS4 LS5 LS6 LS7 LS8 IS0 aY ++ w_Y cI cJ cZ aY VY0 LY0 LY1 LY2 IY0 ++ w_P cI cJ cZ aP VP0 VP1 VP2 NP0 LP0 LP1 LP2 LP3 LP4 IP0 IP1 aS ++ w_P cI cJ cZ aQ y42.2.1 y42.2.2.1 VQ2 NQ0 y42.2.2.2.1 y42.2.2.2.2.1 y42.2.2.2.2.2.1 y42.2.2.2.2.2.2.1 y42.2.2.2.2.2.2.2.1 y42.2.2.2.2.2.2.2.2.1 y42.2.2.2.2.2.2.2.2.2 aS ++ w_T cI cJ cZ aT VT0 NT0 NT1 LT0 IT0 aS) := hD.sub [0, 24, 25, 26, 27, 28, 29, 30, 31, 32, 33, 34, 35, 36, 37, 38, 39, 40, 41, 42, 1, 2, 3, 4, 5, 6, 7, 8, 9, 15, 16, 17, 18, 19, 20, 21, 22, 23, 10, 11, 12, 13, 14] (by decide) rfl
          refine lv_aload_n hx hb d_HaulFlows_closure_57 rfl (lv_at hl 1 rfl) ?_
          refine va_get (D := (dC, dI)) (ci := 4) (v := .ref (aP 0)) (C := R_HaulFlows) (T := T_HaulFlows) (N := 5) hx hb hG in_HaulFlows hown hK hP 0 rfl rfl 1 (by decide) (hG _ m_197) (fun _ h9 => h9) rfl d_HaulFlows_closure_58 ?_
          obtain ⟨y61, hy61, hR⟩ := hw_bind hR
          have hM := c_Plan_totalPrice l dC dI cI cJ cZ H.size aP VP0 VP1 VP2 NP0 LP0 LP1 LP2 LP3 LP4 IP0 IP1 aS VS0 VS1 VS2 NS0 NS1 NS2 LS0 LS1 LS2 LS3 LS4 LS5 LS6 LS7 LS8 IS0 aY VY0 LY0 LY1 LY2 IY0 (by first | assumption | omega) (by first | assumption | omega)
          rw [hy61] at hM
          refine hw_callVl (As := []) (rest := [.long y54]) (wr := w_H cI cJ cZ aH VH0 aS aP aQ aT ++ w_P cI cJ cZ aQ y42.2.1 y42.2.2.1 VQ2 NQ0 y42.2.2.2.1 y42.2.2.2.2.1 y42.2.2.2.2.2.1 y42.2.2.2.2.2.2.1 y42.2.2.2.2.2.2.2.1 y42.2.2.2.2.2.2.2.2.1 y42.2.2.2.2.2.2.2.2.2 aS ++ w_T cI cJ cZ aT VT0 NT0 NT1 LT0 IT0 aS) ⟨hx, hb, hml, hown, hG⟩ hM (hw_cwV 0 hG m_308 m_309 m_310 m_5 m_311 rfl rfl (by decide +kernel) ⟨Nat.le_of_ble_eq_true rfl, Nat.le_of_ble_eq_true rfl⟩) hK hP hD hS hA [20, 21, 22, 23, 24, 25, 26, 27, 28, 1, 2, 3, 4, 5, 6, 7, 8, 9, 10, 11, 12, 13, 14, 15, 16, 17, 18, 19] [0, 29, 30, 31, 32, 33, 34, 35, 36, 37, 38, 39, 40, 41, 42] rfl rfl (by decide) (by decide) (by decide) (hw_recv hK hP 20 rfl rfl) rfl hl.1 rfl (Nat.le_of_ble_eq_true rfl) d_HaulFlows_closure_61 ⟨Nat.le_of_ble_eq_true rfl, Nat.le_of_ble_eq_true rfl⟩ (fun H locs hP hD hS => ?_)
          have hP : va_P (dC, dI) vwCl (w_H cI cJ cZ aH VH0 aS aP aQ aT ++ w_S cI cJ cZ aS VS0 VS1 VS2 NS0 NS1 NS2 LS0 LS1 LS2 LS3 LS4 LS5 LS6 LS7 LS8 IS0 aY ++ w_Y cI cJ cZ aY VY0 LY0 LY1 LY2 IY0 ++ w_P cI cJ cZ aP VP0 VP1 VP2 NP0 LP0 LP1 LP2 LP3 LP4 IP0 IP1 aS ++ w_P cI cJ cZ aQ y42.2.1 y42.2.2.1 VQ2 NQ0 y42.2.2.2.1 y42.2.2.2.2.1 y42.2.2.2.2.2.1 y42.2.2.2.2.2.2.1 y42.2.2.2.2.2.2.2.1 y42.2.2.2.2.2.2.2.2.1 y42.2.2.2.2.2.2.2.2.2 aS ++ w_T cI cJ cZ aT VT0 NT0 NT1 LT0 IT0 aS) H := hP.sub [0, 24, 25, 26, 27, 28, 29, 30, 31, 32, 33, 34, 35, 36, 37, 38, 39, 40, 41, 42, 15, 16, 17, 18, 19, 20, 21, 22, 23, 1, 2, 3, 4, 5, 6, 7, 8, 9, 10, 11, 12, 13, 14] rfl
          have hD : va_D A (w_H cI cJ cZ aH VH0 aS aP aQ aT ++ w_S cI cJ cZ aS VS0 VS1 VS2 NS0 NS1 NS2 LS0 LS1 LS2 LS3 LS4 LS5 LS6 LS7 LS8 IS0 aY ++ w_Y cI cJ cZ aY VY0 LY0 LY1 LY2 IY0 ++ w_P cI cJ cZ aP VP0 VP1 VP2 NP0 LP0 LP1 LP2 LP3 LP4 IP0 IP1 aS ++ w_P cI cJ cZ aQ y42.2.1 y42.2.2.1 VQ2 NQ0 y42.2.2.2.1 y42.2.2.2.2.1 y42.2.2.2.2.2.1 y42.2.2.2.2.2.2.1 y42.2.2.2.2.2.2.2.1 y42.2.2.2.2.2.2.2.2.1 y42.2.2.2.2.2.2.2.2.2 aS ++ w_T cI cJ cZ aT VT0 NT0 NT1 LT0 IT0 aS) := hD.sub [0, 24, 25, 26, 27, 28, 29, 30, 31, 32, 33, 34, 35, 36, 37, 38, 39, 40, 41, 42, 15, 16, 17, 18, 19, 20, 21, 22, 23, 1, 2, 3, 4, 5, 6, 7, 8, 9, 10, 11, 12, 13, 14] (by decide) rfl
          refine lv_lsub hx hb d_HaulFlows_closure_64 ?_
          refine lv_goto (tgt := 71) hx hb d_HaulFlows_closure_65 (by decide) ?_
          refine lv_iload_n hx hb d_HaulFlows_closure_71 rfl (lv_at hl 3 rfl) ?_
          obtain ⟨y72, hy72, hR⟩ := hw_bind hR
          have hM := c_HaulFlows_partOfChange l dC dI cI cJ cZ H.size (y54 - y61) x2
          rw [hy72] at hM
          refine hw_callSl (As := [.long (y54 - y61), .int x2]) (rest := []) (wr := w_H cI cJ cZ aH VH0 aS aP aQ aT ++ w_S cI cJ cZ aS VS0 VS1 VS2 NS0 NS1 NS2 LS0 LS1 LS2 LS3 LS4 LS5 LS6 LS7 LS8 IS0 aY ++ w_Y cI cJ cZ aY VY0 LY0 LY1 LY2 IY0 ++ w_P cI cJ cZ aP VP0 VP1 VP2 NP0 LP0 LP1 LP2 LP3 LP4 IP0 IP1 aS ++ w_P cI cJ cZ aQ y42.2.1 y42.2.2.1 VQ2 NQ0 y42.2.2.2.1 y42.2.2.2.2.1 y42.2.2.2.2.2.1 y42.2.2.2.2.2.2.1 y42.2.2.2.2.2.2.2.1 y42.2.2.2.2.2.2.2.2.1 y42.2.2.2.2.2.2.2.2.2 aS ++ w_T cI cJ cZ aT VT0 NT0 NT1 LT0 IT0 aS) ⟨hx, hb, hml, hown, hG⟩ hM (hw_cwS 2 hG m_353 m_354 m_1 m_355 rfl rfl (by decide +kernel) ⟨Nat.le_of_ble_eq_true rfl, Nat.le_of_ble_eq_true rfl⟩) hK hP hD hS hA [] [0, 1, 2, 3, 4, 5, 6, 7, 8, 9, 10, 11, 12, 13, 14, 15, 16, 17, 18, 19, 20, 21, 22, 23, 24, 25, 26, 27, 28, 29, 30, 31, 32, 33, 34, 35, 36, 37, 38, 39, 40, 41, 42] rfl rfl (by decide) (by decide) (by decide) rfl hl.1 rfl (Nat.le_of_ble_eq_true rfl) d_HaulFlows_closure_72 ⟨Nat.le_of_ble_eq_true rfl, Nat.le_of_ble_eq_true rfl⟩ (fun H locs hP hD hS => ?_)
          have hP : va_P (dC, dI) vwCl (w_H cI cJ cZ aH VH0 aS aP aQ aT ++ w_S cI cJ cZ aS VS0 VS1 VS2 NS0 NS1 NS2 LS0 LS1 LS2 LS3 LS4 LS5 LS6 LS7 LS8 IS0 aY ++ w_Y cI cJ cZ aY VY0 LY0 LY1 LY2 IY0 ++ w_P cI cJ cZ aP VP0 VP1 VP2 NP0 LP0 LP1 LP2 LP3 LP4 IP0 IP1 aS ++ w_P cI cJ cZ aQ y42.2.1 y42.2.2.1 VQ2 NQ0 y42.2.2.2.1 y42.2.2.2.2.1 y42.2.2.2.2.2.1 y42.2.2.2.2.2.2.1 y42.2.2.2.2.2.2.2.1 y42.2.2.2.2.2.2.2.2.1 y42.2.2.2.2.2.2.2.2.2 aS ++ w_T cI cJ cZ aT VT0 NT0 NT1 LT0 IT0 aS) H := hP
          have hD : va_D A (w_H cI cJ cZ aH VH0 aS aP aQ aT ++ w_S cI cJ cZ aS VS0 VS1 VS2 NS0 NS1 NS2 LS0 LS1 LS2 LS3 LS4 LS5 LS6 LS7 LS8 IS0 aY ++ w_Y cI cJ cZ aY VY0 LY0 LY1 LY2 IY0 ++ w_P cI cJ cZ aP VP0 VP1 VP2 NP0 LP0 LP1 LP2 LP3 LP4 IP0 IP1 aS ++ w_P cI cJ cZ aQ y42.2.1 y42.2.2.1 VQ2 NQ0 y42.2.2.2.1 y42.2.2.2.2.1 y42.2.2.2.2.2.1 y42.2.2.2.2.2.2.1 y42.2.2.2.2.2.2.2.1 y42.2.2.2.2.2.2.2.2.1 y42.2.2.2.2.2.2.2.2.2 aS ++ w_T cI cJ cZ aT VT0 NT0 NT1 LT0 IT0 aS) := hD
          subst hR
          exact W.lret (v := y72) hx hb hr (fun t ht hW => ⟨⟨_, (), rfl, rfl, by rw [ht]; exact hP, va_K.moved hW.alike hK, hD⟩, hS.F ht⟩) hS.2.2 d_HaulFlows_closure_75
      · replace hR := (if_pos c30).symm.trans hR
        refine lv_ldc2 (v := (-1)) hx hb hown (hG _ m_295) d_HaulFlows_closure_33 ?_
        subst hR
        exact W.lret (v := (-1)) hx hb hr (fun t ht hW => ⟨⟨_, (), rfl, rfl, by rw [ht]; exact hP, va_K.moved hW.alike hK, hD⟩, hS.F ht⟩) hS.2.2 d_HaulFlows_closure_36
