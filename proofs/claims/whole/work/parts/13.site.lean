abbrev b_Site_sources : ByteArray := prog_4_method_6_code
def y_Site_sources : MethodName := ⟨R_Site, "sources", "()I"⟩
def u_Site_sources : List Cond := Cond.code y_Site_sources b_Site_sources 1 (some .int) :: wG
theorem d_Site_sources_0 : decode b_Site_sources 0 = .ok (.aload_n 0, 1) := by decide +kernel
theorem d_Site_sources_1 : decode b_Site_sources 1 = .ok (.getfield 67, 3) := by decide +kernel
theorem d_Site_sources_4 : decode b_Site_sources 4 = .ok (.aload_n 0, 1) := by decide +kernel
theorem d_Site_sources_5 : decode b_Site_sources 5 = .ok (.getfield 74, 3) := by decide +kernel
theorem d_Site_sources_8 : decode b_Site_sources 8 = .ok (.iadd, 1) := by decide +kernel
theorem d_Site_sources_9 : decode b_Site_sources 9 = .ok (.ireturn, 1) := by decide +kernel
abbrev b_Site_gives : ByteArray := prog_4_method_7_code
def y_Site_gives : MethodName := ⟨R_Site, "gives", "(I)J"⟩
def u_Site_gives : List Cond := Cond.code y_Site_gives b_Site_gives 5 (some .long) :: wG
theorem d_Site_gives_0 : decode b_Site_gives 0 = .ok (.aload_n 0, 1) := by decide +kernel
theorem d_Site_gives_1 : decode b_Site_gives 1 = .ok (.getfield 25, 3) := by decide +kernel
theorem d_Site_gives_4 : decode b_Site_gives 4 = .ok (.iload_n 1, 1) := by decide +kernel
theorem d_Site_gives_5 : decode b_Site_gives 5 = .ok (.iaload, 1) := by decide +kernel
theorem d_Site_gives_6 : decode b_Site_gives 6 = .ok (.istore_n 2, 1) := by decide +kernel
theorem d_Site_gives_7 : decode b_Site_gives 7 = .ok (.aload_n 0, 1) := by decide +kernel
theorem d_Site_gives_8 : decode b_Site_gives 8 = .ok (.getfield 50, 3) := by decide +kernel
theorem d_Site_gives_11 : decode b_Site_gives 11 = .ok (.iload_n 2, 1) := by decide +kernel
theorem d_Site_gives_12 : decode b_Site_gives 12 = .ok (.laload, 1) := by decide +kernel
theorem d_Site_gives_13 : decode b_Site_gives 13 = .ok (.lstore_n 3, 1) := by decide +kernel
theorem d_Site_gives_14 : decode b_Site_gives 14 = .ok (.lload_n 3, 1) := by decide +kernel
theorem d_Site_gives_15 : decode b_Site_gives 15 = .ok (.lconst 1, 1) := by decide +kernel
theorem d_Site_gives_16 : decode b_Site_gives 16 = .ok (.lcmp, 1) := by decide +kernel
theorem d_Site_gives_17 : decode b_Site_gives 17 = .ok (.ifCond .ge 7, 3) := by decide +kernel
theorem d_Site_gives_20 : decode b_Site_gives 20 = .ok (.lconst 0, 1) := by decide +kernel
theorem d_Site_gives_21 : decode b_Site_gives 21 = .ok (.goto 18, 3) := by decide +kernel
theorem d_Site_gives_24 : decode b_Site_gives 24 = .ok (.aload_n 0, 1) := by decide +kernel
theorem d_Site_gives_25 : decode b_Site_gives 25 = .ok (.getfield 18, 3) := by decide +kernel
theorem d_Site_gives_28 : decode b_Site_gives 28 = .ok (.iload_n 1, 1) := by decide +kernel
theorem d_Site_gives_29 : decode b_Site_gives 29 = .ok (.laload, 1) := by decide +kernel
theorem d_Site_gives_30 : decode b_Site_gives 30 = .ok (.aload_n 0, 1) := by decide +kernel
theorem d_Site_gives_31 : decode b_Site_gives 31 = .ok (.getfield 47, 3) := by decide +kernel
theorem d_Site_gives_34 : decode b_Site_gives 34 = .ok (.iload_n 2, 1) := by decide +kernel
theorem d_Site_gives_35 : decode b_Site_gives 35 = .ok (.laload, 1) := by decide +kernel
theorem d_Site_gives_36 : decode b_Site_gives 36 = .ok (.lmul, 1) := by decide +kernel
theorem d_Site_gives_37 : decode b_Site_gives 37 = .ok (.lload_n 3, 1) := by decide +kernel
theorem d_Site_gives_38 : decode b_Site_gives 38 = .ok (.ldiv, 1) := by decide +kernel
theorem d_Site_gives_39 : decode b_Site_gives 39 = .ok (.lreturn, 1) := by decide +kernel
abbrev b_Site_capacity : ByteArray := prog_4_method_8_code
def y_Site_capacity : MethodName := ⟨R_Site, "capacity", "(I)J"⟩
def u_Site_capacity : List Cond := Cond.code y_Site_capacity b_Site_capacity 2 (some .long) :: wG
theorem d_Site_capacity_0 : decode b_Site_capacity 0 = .ok (.iload_n 1, 1) := by decide +kernel
theorem d_Site_capacity_1 : decode b_Site_capacity 1 = .ok (.aload_n 0, 1) := by decide +kernel
theorem d_Site_capacity_2 : decode b_Site_capacity 2 = .ok (.getfield 67, 3) := by decide +kernel
theorem d_Site_capacity_5 : decode b_Site_capacity 5 = .ok (.if_icmp .ge 11, 3) := by decide +kernel
theorem d_Site_capacity_8 : decode b_Site_capacity 8 = .ok (.aload_n 0, 1) := by decide +kernel
theorem d_Site_capacity_9 : decode b_Site_capacity 9 = .ok (.iload_n 1, 1) := by decide +kernel
theorem d_Site_capacity_10 : decode b_Site_capacity 10 = .ok (.invokevirtual 77, 3) := by decide +kernel
theorem d_Site_capacity_13 : decode b_Site_capacity 13 = .ok (.goto 6, 3) := by decide +kernel
theorem d_Site_capacity_16 : decode b_Site_capacity 16 = .ok (.ldc2_w 65, 3) := by decide +kernel
theorem d_Site_capacity_19 : decode b_Site_capacity 19 = .ok (.lreturn, 1) := by decide +kernel
abbrev b_Site_metreOf : ByteArray := prog_4_method_9_code
def y_Site_metreOf : MethodName := ⟨R_Site, "metreOf", "(I)J"⟩
def u_Site_metreOf : List Cond := Cond.code y_Site_metreOf b_Site_metreOf 2 (some .long) :: wG
theorem d_Site_metreOf_0 : decode b_Site_metreOf 0 = .ok (.iload_n 1, 1) := by decide +kernel
theorem d_Site_metreOf_1 : decode b_Site_metreOf 1 = .ok (.aload_n 0, 1) := by decide +kernel
theorem d_Site_metreOf_2 : decode b_Site_metreOf 2 = .ok (.getfield 67, 3) := by decide +kernel
theorem d_Site_metreOf_5 : decode b_Site_metreOf 5 = .ok (.if_icmp .ge 12, 3) := by decide +kernel
theorem d_Site_metreOf_8 : decode b_Site_metreOf 8 = .ok (.aload_n 0, 1) := by decide +kernel
theorem d_Site_metreOf_9 : decode b_Site_metreOf 9 = .ok (.getfield 22, 3) := by decide +kernel
theorem d_Site_metreOf_12 : decode b_Site_metreOf 12 = .ok (.iload_n 1, 1) := by decide +kernel
theorem d_Site_metreOf_13 : decode b_Site_metreOf 13 = .ok (.laload, 1) := by decide +kernel
theorem d_Site_metreOf_14 : decode b_Site_metreOf 14 = .ok (.goto 14, 3) := by decide +kernel
theorem d_Site_metreOf_17 : decode b_Site_metreOf 17 = .ok (.aload_n 0, 1) := by decide +kernel
theorem d_Site_metreOf_18 : decode b_Site_metreOf 18 = .ok (.getfield 32, 3) := by decide +kernel
theorem d_Site_metreOf_21 : decode b_Site_metreOf 21 = .ok (.iload_n 1, 1) := by decide +kernel
theorem d_Site_metreOf_22 : decode b_Site_metreOf 22 = .ok (.aload_n 0, 1) := by decide +kernel
theorem d_Site_metreOf_23 : decode b_Site_metreOf 23 = .ok (.getfield 67, 3) := by decide +kernel
theorem d_Site_metreOf_26 : decode b_Site_metreOf 26 = .ok (.isub, 1) := by decide +kernel
theorem d_Site_metreOf_27 : decode b_Site_metreOf 27 = .ok (.laload, 1) := by decide +kernel
theorem d_Site_metreOf_28 : decode b_Site_metreOf 28 = .ok (.lreturn, 1) := by decide +kernel
abbrev b_Site_serves : ByteArray := prog_4_method_10_code
def y_Site_serves : MethodName := ⟨R_Site, "serves", "(II)Z"⟩
def u_Site_serves : List Cond := Cond.code y_Site_serves b_Site_serves 3 (some .boolean) :: wG
theorem d_Site_serves_0 : decode b_Site_serves 0 = .ok (.iload_n 1, 1) := by decide +kernel
theorem d_Site_serves_1 : decode b_Site_serves 1 = .ok (.aload_n 0, 1) := by decide +kernel
theorem d_Site_serves_2 : decode b_Site_serves 2 = .ok (.getfield 67, 3) := by decide +kernel
theorem d_Site_serves_5 : decode b_Site_serves 5 = .ok (.if_icmp .lt 5, 3) := by decide +kernel
theorem d_Site_serves_8 : decode b_Site_serves 8 = .ok (.iconst 1, 1) := by decide +kernel
theorem d_Site_serves_9 : decode b_Site_serves 9 = .ok (.ireturn, 1) := by decide +kernel
theorem d_Site_serves_10 : decode b_Site_serves 10 = .ok (.aload_n 0, 1) := by decide +kernel
theorem d_Site_serves_11 : decode b_Site_serves 11 = .ok (.getfield 53, 3) := by decide +kernel
theorem d_Site_serves_14 : decode b_Site_serves 14 = .ok (.aload_n 0, 1) := by decide +kernel
theorem d_Site_serves_15 : decode b_Site_serves 15 = .ok (.getfield 25, 3) := by decide +kernel
theorem d_Site_serves_18 : decode b_Site_serves 18 = .ok (.iload_n 1, 1) := by decide +kernel
theorem d_Site_serves_19 : decode b_Site_serves 19 = .ok (.iaload, 1) := by decide +kernel
theorem d_Site_serves_20 : decode b_Site_serves 20 = .ok (.iaload, 1) := by decide +kernel
theorem d_Site_serves_21 : decode b_Site_serves 21 = .ok (.iload_n 2, 1) := by decide +kernel
theorem d_Site_serves_22 : decode b_Site_serves 22 = .ok (.ishr, 1) := by decide +kernel
theorem d_Site_serves_23 : decode b_Site_serves 23 = .ok (.iconst 1, 1) := by decide +kernel
theorem d_Site_serves_24 : decode b_Site_serves 24 = .ok (.iand, 1) := by decide +kernel
theorem d_Site_serves_25 : decode b_Site_serves 25 = .ok (.ifCond .ne 22, 3) := by decide +kernel
theorem d_Site_serves_28 : decode b_Site_serves 28 = .ok (.aload_n 0, 1) := by decide +kernel
theorem d_Site_serves_29 : decode b_Site_serves 29 = .ok (.getfield 29, 3) := by decide +kernel
theorem d_Site_serves_32 : decode b_Site_serves 32 = .ok (.iload_n 1, 1) := by decide +kernel
theorem d_Site_serves_33 : decode b_Site_serves 33 = .ok (.iaload, 1) := by decide +kernel
theorem d_Site_serves_34 : decode b_Site_serves 34 = .ok (.aload_n 0, 1) := by decide +kernel
theorem d_Site_serves_35 : decode b_Site_serves 35 = .ok (.getfield 44, 3) := by decide +kernel
theorem d_Site_serves_38 : decode b_Site_serves 38 = .ok (.iload_n 2, 1) := by decide +kernel
theorem d_Site_serves_39 : decode b_Site_serves 39 = .ok (.iaload, 1) := by decide +kernel
theorem d_Site_serves_40 : decode b_Site_serves 40 = .ok (.if_icmp .gt 7, 3) := by decide +kernel
theorem d_Site_serves_43 : decode b_Site_serves 43 = .ok (.iconst 1, 1) := by decide +kernel
theorem d_Site_serves_44 : decode b_Site_serves 44 = .ok (.goto 4, 3) := by decide +kernel
theorem d_Site_serves_47 : decode b_Site_serves 47 = .ok (.iconst 0, 1) := by decide +kernel
theorem d_Site_serves_48 : decode b_Site_serves 48 = .ok (.ireturn, 1) := by decide +kernel
abbrev b_Site_unitPrice : ByteArray := prog_4_method_11_code
def y_Site_unitPrice : MethodName := ⟨R_Site, "unitPrice", "(III)J"⟩
def u_Site_unitPrice : List Cond := Cond.code y_Site_unitPrice b_Site_unitPrice 6 (some .long) :: wG
theorem d_Site_unitPrice_0 : decode b_Site_unitPrice 0 = .ok (.iload_n 1, 1) := by decide +kernel
theorem d_Site_unitPrice_1 : decode b_Site_unitPrice 1 = .ok (.aload_n 0, 1) := by decide +kernel
theorem d_Site_unitPrice_2 : decode b_Site_unitPrice 2 = .ok (.getfield 67, 3) := by decide +kernel
theorem d_Site_unitPrice_5 : decode b_Site_unitPrice 5 = .ok (.if_icmp .ge 7, 3) := by decide +kernel
theorem d_Site_unitPrice_8 : decode b_Site_unitPrice 8 = .ok (.lconst 0, 1) := by decide +kernel
theorem d_Site_unitPrice_9 : decode b_Site_unitPrice 9 = .ok (.goto 14, 3) := by decide +kernel
theorem d_Site_unitPrice_12 : decode b_Site_unitPrice 12 = .ok (.aload_n 0, 1) := by decide +kernel
theorem d_Site_unitPrice_13 : decode b_Site_unitPrice 13 = .ok (.getfield 35, 3) := by decide +kernel
theorem d_Site_unitPrice_16 : decode b_Site_unitPrice 16 = .ok (.iload_n 1, 1) := by decide +kernel
theorem d_Site_unitPrice_17 : decode b_Site_unitPrice 17 = .ok (.aload_n 0, 1) := by decide +kernel
theorem d_Site_unitPrice_18 : decode b_Site_unitPrice 18 = .ok (.getfield 67, 3) := by decide +kernel
theorem d_Site_unitPrice_21 : decode b_Site_unitPrice 21 = .ok (.isub, 1) := by decide +kernel
theorem d_Site_unitPrice_22 : decode b_Site_unitPrice 22 = .ok (.laload, 1) := by decide +kernel
theorem d_Site_unitPrice_23 : decode b_Site_unitPrice 23 = .ok (.lstore 4, 2) := by decide +kernel
theorem d_Site_unitPrice_25 : decode b_Site_unitPrice 25 = .ok (.lload 4, 2) := by decide +kernel
theorem d_Site_unitPrice_27 : decode b_Site_unitPrice 27 = .ok (.aload_n 0, 1) := by decide +kernel
theorem d_Site_unitPrice_28 : decode b_Site_unitPrice 28 = .ok (.getfield 12, 3) := by decide +kernel
theorem d_Site_unitPrice_31 : decode b_Site_unitPrice 31 = .ok (.aload_n 0, 1) := by decide +kernel
theorem d_Site_unitPrice_32 : decode b_Site_unitPrice 32 = .ok (.iload_n 1, 1) := by decide +kernel
theorem d_Site_unitPrice_33 : decode b_Site_unitPrice 33 = .ok (.invokevirtual 81, 3) := by decide +kernel
theorem d_Site_unitPrice_36 : decode b_Site_unitPrice 36 = .ok (.aload_n 0, 1) := by decide +kernel
theorem d_Site_unitPrice_37 : decode b_Site_unitPrice 37 = .ok (.getfield 41, 3) := by decide +kernel
theorem d_Site_unitPrice_40 : decode b_Site_unitPrice 40 = .ok (.iload_n 2, 1) := by decide +kernel
theorem d_Site_unitPrice_41 : decode b_Site_unitPrice 41 = .ok (.laload, 1) := by decide +kernel
theorem d_Site_unitPrice_42 : decode b_Site_unitPrice 42 = .ok (.aload_n 0, 1) := by decide +kernel
theorem d_Site_unitPrice_43 : decode b_Site_unitPrice 43 = .ok (.getfield 44, 3) := by decide +kernel
theorem d_Site_unitPrice_46 : decode b_Site_unitPrice 46 = .ok (.iload_n 2, 1) := by decide +kernel
theorem d_Site_unitPrice_47 : decode b_Site_unitPrice 47 = .ok (.iaload, 1) := by decide +kernel
theorem d_Site_unitPrice_48 : decode b_Site_unitPrice 48 = .ok (.iload_n 3, 1) := by decide +kernel
theorem d_Site_unitPrice_49 : decode b_Site_unitPrice 49 = .ok (.invokevirtual 84, 3) := by decide +kernel
theorem d_Site_unitPrice_52 : decode b_Site_unitPrice 52 = .ok (.ladd, 1) := by decide +kernel
theorem d_Site_unitPrice_53 : decode b_Site_unitPrice 53 = .ok (.lreturn, 1) := by decide +kernel
abbrev b_Site_weekSpare : ByteArray := prog_4_method_12_code
def y_Site_weekSpare : MethodName := ⟨R_Site, "weekSpare", "(I)J"⟩
def u_Site_weekSpare : List Cond := Cond.code y_Site_weekSpare b_Site_weekSpare 5 (some .long) :: wG
theorem d_Site_weekSpare_0 : decode b_Site_weekSpare 0 = .ok (.aload_n 0, 1) := by decide +kernel
theorem d_Site_weekSpare_1 : decode b_Site_weekSpare 1 = .ok (.getfield 56, 3) := by decide +kernel
theorem d_Site_weekSpare_4 : decode b_Site_weekSpare 4 = .ok (.iload_n 1, 1) := by decide +kernel
theorem d_Site_weekSpare_5 : decode b_Site_weekSpare 5 = .ok (.laload, 1) := by decide +kernel
theorem d_Site_weekSpare_6 : decode b_Site_weekSpare 6 = .ok (.lstore_n 2, 1) := by decide +kernel
theorem d_Site_weekSpare_7 : decode b_Site_weekSpare 7 = .ok (.iconst 0, 1) := by decide +kernel
theorem d_Site_weekSpare_8 : decode b_Site_weekSpare 8 = .ok (.istore 4, 2) := by decide +kernel
theorem d_Site_weekSpare_10 : decode b_Site_weekSpare 10 = .ok (.iload 4, 2) := by decide +kernel
theorem d_Site_weekSpare_12 : decode b_Site_weekSpare 12 = .ok (.aload_n 0, 1) := by decide +kernel
theorem d_Site_weekSpare_13 : decode b_Site_weekSpare 13 = .ok (.getfield 71, 3) := by decide +kernel
theorem d_Site_weekSpare_16 : decode b_Site_weekSpare 16 = .ok (.if_icmp .ge 30, 3) := by decide +kernel
theorem d_Site_weekSpare_19 : decode b_Site_weekSpare 19 = .ok (.aload_n 0, 1) := by decide +kernel
theorem d_Site_weekSpare_20 : decode b_Site_weekSpare 20 = .ok (.getfield 44, 3) := by decide +kernel
theorem d_Site_weekSpare_23 : decode b_Site_weekSpare 23 = .ok (.iload 4, 2) := by decide +kernel
theorem d_Site_weekSpare_25 : decode b_Site_weekSpare 25 = .ok (.iaload, 1) := by decide +kernel
theorem d_Site_weekSpare_26 : decode b_Site_weekSpare 26 = .ok (.iload_n 1, 1) := by decide +kernel
theorem d_Site_weekSpare_27 : decode b_Site_weekSpare 27 = .ok (.if_icmp .ne 13, 3) := by decide +kernel
theorem d_Site_weekSpare_30 : decode b_Site_weekSpare 30 = .ok (.lload_n 2, 1) := by decide +kernel
theorem d_Site_weekSpare_31 : decode b_Site_weekSpare 31 = .ok (.aload_n 0, 1) := by decide +kernel
theorem d_Site_weekSpare_32 : decode b_Site_weekSpare 32 = .ok (.getfield 38, 3) := by decide +kernel
theorem d_Site_weekSpare_35 : decode b_Site_weekSpare 35 = .ok (.iload 4, 2) := by decide +kernel
theorem d_Site_weekSpare_37 : decode b_Site_weekSpare 37 = .ok (.laload, 1) := by decide +kernel
theorem d_Site_weekSpare_38 : decode b_Site_weekSpare 38 = .ok (.lsub, 1) := by decide +kernel
theorem d_Site_weekSpare_39 : decode b_Site_weekSpare 39 = .ok (.lstore_n 2, 1) := by decide +kernel
theorem d_Site_weekSpare_40 : decode b_Site_weekSpare 40 = .ok (.iinc 4 1, 3) := by decide +kernel
theorem d_Site_weekSpare_43 : decode b_Site_weekSpare 43 = .ok (.goto (-33), 3) := by decide +kernel
theorem d_Site_weekSpare_46 : decode b_Site_weekSpare 46 = .ok (.lload_n 2, 1) := by decide +kernel
theorem d_Site_weekSpare_47 : decode b_Site_weekSpare 47 = .ok (.lreturn, 1) := by decide +kernel
abbrev b_Site_weeksSuffice : ByteArray := prog_4_method_13_code
def y_Site_weeksSuffice : MethodName := ⟨R_Site, "weeksSuffice", "()Z"⟩
def u_Site_weeksSuffice : List Cond := Cond.code y_Site_weeksSuffice b_Site_weeksSuffice 2 (some .boolean) :: wG
theorem d_Site_weeksSuffice_0 : decode b_Site_weeksSuffice 0 = .ok (.iconst 0, 1) := by decide +kernel
theorem d_Site_weeksSuffice_1 : decode b_Site_weeksSuffice 1 = .ok (.istore_n 1, 1) := by decide +kernel
theorem d_Site_weeksSuffice_2 : decode b_Site_weeksSuffice 2 = .ok (.iload_n 1, 1) := by decide +kernel
theorem d_Site_weeksSuffice_3 : decode b_Site_weeksSuffice 3 = .ok (.bipush 12, 2) := by decide +kernel
theorem d_Site_weeksSuffice_5 : decode b_Site_weeksSuffice 5 = .ok (.if_icmp .ge 21, 3) := by decide +kernel
theorem d_Site_weeksSuffice_8 : decode b_Site_weeksSuffice 8 = .ok (.aload_n 0, 1) := by decide +kernel
theorem d_Site_weeksSuffice_9 : decode b_Site_weeksSuffice 9 = .ok (.iload_n 1, 1) := by decide +kernel
theorem d_Site_weeksSuffice_10 : decode b_Site_weeksSuffice 10 = .ok (.invokevirtual 88, 3) := by decide +kernel
theorem d_Site_weeksSuffice_13 : decode b_Site_weeksSuffice 13 = .ok (.lconst 0, 1) := by decide +kernel
theorem d_Site_weeksSuffice_14 : decode b_Site_weeksSuffice 14 = .ok (.lcmp, 1) := by decide +kernel
theorem d_Site_weeksSuffice_15 : decode b_Site_weeksSuffice 15 = .ok (.ifCond .ge 5, 3) := by decide +kernel
theorem d_Site_weeksSuffice_18 : decode b_Site_weeksSuffice 18 = .ok (.iconst 0, 1) := by decide +kernel
theorem d_Site_weeksSuffice_19 : decode b_Site_weeksSuffice 19 = .ok (.ireturn, 1) := by decide +kernel
theorem d_Site_weeksSuffice_20 : decode b_Site_weeksSuffice 20 = .ok (.iinc 1 1, 3) := by decide +kernel
theorem d_Site_weeksSuffice_23 : decode b_Site_weeksSuffice 23 = .ok (.goto (-21), 3) := by decide +kernel
theorem d_Site_weeksSuffice_26 : decode b_Site_weeksSuffice 26 = .ok (.iconst 1, 1) := by decide +kernel
theorem d_Site_weeksSuffice_27 : decode b_Site_weeksSuffice 27 = .ok (.ireturn, 1) := by decide +kernel
abbrev b_Site_givenUpTo : ByteArray := prog_4_method_14_code
def y_Site_givenUpTo : MethodName := ⟨R_Site, "givenUpTo", "(J)J"⟩
def u_Site_givenUpTo : List Cond := Cond.code y_Site_givenUpTo b_Site_givenUpTo 6 (some .long) :: wG
theorem d_Site_givenUpTo_0 : decode b_Site_givenUpTo 0 = .ok (.lconst 0, 1) := by decide +kernel
theorem d_Site_givenUpTo_1 : decode b_Site_givenUpTo 1 = .ok (.lstore_n 3, 1) := by decide +kernel
theorem d_Site_givenUpTo_2 : decode b_Site_givenUpTo 2 = .ok (.iconst 0, 1) := by decide +kernel
theorem d_Site_givenUpTo_3 : decode b_Site_givenUpTo 3 = .ok (.istore 5, 2) := by decide +kernel
theorem d_Site_givenUpTo_5 : decode b_Site_givenUpTo 5 = .ok (.iload 5, 2) := by decide +kernel
theorem d_Site_givenUpTo_7 : decode b_Site_givenUpTo 7 = .ok (.aload_n 0, 1) := by decide +kernel
theorem d_Site_givenUpTo_8 : decode b_Site_givenUpTo 8 = .ok (.getfield 67, 3) := by decide +kernel
theorem d_Site_givenUpTo_11 : decode b_Site_givenUpTo 11 = .ok (.if_icmp .ge 30, 3) := by decide +kernel
theorem d_Site_givenUpTo_14 : decode b_Site_givenUpTo 14 = .ok (.aload_n 0, 1) := by decide +kernel
theorem d_Site_givenUpTo_15 : decode b_Site_givenUpTo 15 = .ok (.getfield 22, 3) := by decide +kernel
theorem d_Site_givenUpTo_18 : decode b_Site_givenUpTo 18 = .ok (.iload 5, 2) := by decide +kernel
theorem d_Site_givenUpTo_20 : decode b_Site_givenUpTo 20 = .ok (.laload, 1) := by decide +kernel
theorem d_Site_givenUpTo_21 : decode b_Site_givenUpTo 21 = .ok (.lload_n 1, 1) := by decide +kernel
theorem d_Site_givenUpTo_22 : decode b_Site_givenUpTo 22 = .ok (.lcmp, 1) := by decide +kernel
theorem d_Site_givenUpTo_23 : decode b_Site_givenUpTo 23 = .ok (.ifCond .gt 12, 3) := by decide +kernel
theorem d_Site_givenUpTo_26 : decode b_Site_givenUpTo 26 = .ok (.lload_n 3, 1) := by decide +kernel
theorem d_Site_givenUpTo_27 : decode b_Site_givenUpTo 27 = .ok (.aload_n 0, 1) := by decide +kernel
theorem d_Site_givenUpTo_28 : decode b_Site_givenUpTo 28 = .ok (.iload 5, 2) := by decide +kernel
theorem d_Site_givenUpTo_30 : decode b_Site_givenUpTo 30 = .ok (.invokevirtual 77, 3) := by decide +kernel
theorem d_Site_givenUpTo_33 : decode b_Site_givenUpTo 33 = .ok (.ladd, 1) := by decide +kernel
theorem d_Site_givenUpTo_34 : decode b_Site_givenUpTo 34 = .ok (.lstore_n 3, 1) := by decide +kernel
theorem d_Site_givenUpTo_35 : decode b_Site_givenUpTo 35 = .ok (.iinc 5 1, 3) := by decide +kernel
theorem d_Site_givenUpTo_38 : decode b_Site_givenUpTo 38 = .ok (.goto (-33), 3) := by decide +kernel
theorem d_Site_givenUpTo_41 : decode b_Site_givenUpTo 41 = .ok (.lload_n 3, 1) := by decide +kernel
theorem d_Site_givenUpTo_42 : decode b_Site_givenUpTo 42 = .ok (.lreturn, 1) := by decide +kernel
abbrev b_Site_wantedUpTo : ByteArray := prog_4_method_15_code
def y_Site_wantedUpTo : MethodName := ⟨R_Site, "wantedUpTo", "(J)J"⟩
def u_Site_wantedUpTo : List Cond := Cond.code y_Site_wantedUpTo b_Site_wantedUpTo 6 (some .long) :: wG
theorem d_Site_wantedUpTo_0 : decode b_Site_wantedUpTo 0 = .ok (.lconst 0, 1) := by decide +kernel
theorem d_Site_wantedUpTo_1 : decode b_Site_wantedUpTo 1 = .ok (.lstore_n 3, 1) := by decide +kernel
theorem d_Site_wantedUpTo_2 : decode b_Site_wantedUpTo 2 = .ok (.iconst 0, 1) := by decide +kernel
theorem d_Site_wantedUpTo_3 : decode b_Site_wantedUpTo 3 = .ok (.istore 5, 2) := by decide +kernel
theorem d_Site_wantedUpTo_5 : decode b_Site_wantedUpTo 5 = .ok (.iload 5, 2) := by decide +kernel
theorem d_Site_wantedUpTo_7 : decode b_Site_wantedUpTo 7 = .ok (.aload_n 0, 1) := by decide +kernel
theorem d_Site_wantedUpTo_8 : decode b_Site_wantedUpTo 8 = .ok (.getfield 71, 3) := by decide +kernel
theorem d_Site_wantedUpTo_11 : decode b_Site_wantedUpTo 11 = .ok (.if_icmp .ge 31, 3) := by decide +kernel
theorem d_Site_wantedUpTo_14 : decode b_Site_wantedUpTo 14 = .ok (.aload_n 0, 1) := by decide +kernel
theorem d_Site_wantedUpTo_15 : decode b_Site_wantedUpTo 15 = .ok (.getfield 41, 3) := by decide +kernel
theorem d_Site_wantedUpTo_18 : decode b_Site_wantedUpTo 18 = .ok (.iload 5, 2) := by decide +kernel
theorem d_Site_wantedUpTo_20 : decode b_Site_wantedUpTo 20 = .ok (.laload, 1) := by decide +kernel
theorem d_Site_wantedUpTo_21 : decode b_Site_wantedUpTo 21 = .ok (.lload_n 1, 1) := by decide +kernel
theorem d_Site_wantedUpTo_22 : decode b_Site_wantedUpTo 22 = .ok (.lcmp, 1) := by decide +kernel
theorem d_Site_wantedUpTo_23 : decode b_Site_wantedUpTo 23 = .ok (.ifCond .gt 13, 3) := by decide +kernel
theorem d_Site_wantedUpTo_26 : decode b_Site_wantedUpTo 26 = .ok (.lload_n 3, 1) := by decide +kernel
theorem d_Site_wantedUpTo_27 : decode b_Site_wantedUpTo 27 = .ok (.aload_n 0, 1) := by decide +kernel
theorem d_Site_wantedUpTo_28 : decode b_Site_wantedUpTo 28 = .ok (.getfield 38, 3) := by decide +kernel
theorem d_Site_wantedUpTo_31 : decode b_Site_wantedUpTo 31 = .ok (.iload 5, 2) := by decide +kernel
theorem d_Site_wantedUpTo_33 : decode b_Site_wantedUpTo 33 = .ok (.laload, 1) := by decide +kernel
theorem d_Site_wantedUpTo_34 : decode b_Site_wantedUpTo 34 = .ok (.ladd, 1) := by decide +kernel
theorem d_Site_wantedUpTo_35 : decode b_Site_wantedUpTo 35 = .ok (.lstore_n 3, 1) := by decide +kernel
theorem d_Site_wantedUpTo_36 : decode b_Site_wantedUpTo 36 = .ok (.iinc 5 1, 3) := by decide +kernel
theorem d_Site_wantedUpTo_39 : decode b_Site_wantedUpTo 39 = .ok (.goto (-34), 3) := by decide +kernel
theorem d_Site_wantedUpTo_42 : decode b_Site_wantedUpTo 42 = .ok (.lload_n 3, 1) := by decide +kernel
theorem d_Site_wantedUpTo_43 : decode b_Site_wantedUpTo 43 = .ok (.lreturn, 1) := by decide +kernel
abbrev b_Site_addCut : ByteArray := prog_4_method_2_code
def y_Site_addCut : MethodName := ⟨R_Site, "addCut", "(JIIJ)I"⟩
def u_Site_addCut : List Cond := Cond.code y_Site_addCut b_Site_addCut 7 (some .int) :: wG
theorem d_Site_addCut_0 : decode b_Site_addCut 0 = .ok (.aload_n 0, 1) := by decide +kernel
theorem d_Site_addCut_1 : decode b_Site_addCut 1 = .ok (.getfield 18, 3) := by decide +kernel
theorem d_Site_addCut_4 : decode b_Site_addCut 4 = .ok (.aload_n 0, 1) := by decide +kernel
theorem d_Site_addCut_5 : decode b_Site_addCut 5 = .ok (.getfield 67, 3) := by decide +kernel
theorem d_Site_addCut_8 : decode b_Site_addCut 8 = .ok (.lload_n 1, 1) := by decide +kernel
theorem d_Site_addCut_9 : decode b_Site_addCut 9 = .ok (.lastore, 1) := by decide +kernel
theorem d_Site_addCut_10 : decode b_Site_addCut 10 = .ok (.aload_n 0, 1) := by decide +kernel
theorem d_Site_addCut_11 : decode b_Site_addCut 11 = .ok (.getfield 25, 3) := by decide +kernel
theorem d_Site_addCut_14 : decode b_Site_addCut 14 = .ok (.aload_n 0, 1) := by decide +kernel
theorem d_Site_addCut_15 : decode b_Site_addCut 15 = .ok (.getfield 67, 3) := by decide +kernel
theorem d_Site_addCut_18 : decode b_Site_addCut 18 = .ok (.iload_n 3, 1) := by decide +kernel
theorem d_Site_addCut_19 : decode b_Site_addCut 19 = .ok (.iastore, 1) := by decide +kernel
theorem d_Site_addCut_20 : decode b_Site_addCut 20 = .ok (.aload_n 0, 1) := by decide +kernel
theorem d_Site_addCut_21 : decode b_Site_addCut 21 = .ok (.getfield 29, 3) := by decide +kernel
theorem d_Site_addCut_24 : decode b_Site_addCut 24 = .ok (.aload_n 0, 1) := by decide +kernel
theorem d_Site_addCut_25 : decode b_Site_addCut 25 = .ok (.getfield 67, 3) := by decide +kernel
theorem d_Site_addCut_28 : decode b_Site_addCut 28 = .ok (.iload 4, 2) := by decide +kernel
theorem d_Site_addCut_30 : decode b_Site_addCut 30 = .ok (.iastore, 1) := by decide +kernel
theorem d_Site_addCut_31 : decode b_Site_addCut 31 = .ok (.aload_n 0, 1) := by decide +kernel
theorem d_Site_addCut_32 : decode b_Site_addCut 32 = .ok (.getfield 22, 3) := by decide +kernel
theorem d_Site_addCut_35 : decode b_Site_addCut 35 = .ok (.aload_n 0, 1) := by decide +kernel
theorem d_Site_addCut_36 : decode b_Site_addCut 36 = .ok (.getfield 67, 3) := by decide +kernel
theorem d_Site_addCut_39 : decode b_Site_addCut 39 = .ok (.lload 5, 2) := by decide +kernel
theorem d_Site_addCut_41 : decode b_Site_addCut 41 = .ok (.lastore, 1) := by decide +kernel
theorem d_Site_addCut_42 : decode b_Site_addCut 42 = .ok (.aload_n 0, 1) := by decide +kernel
theorem d_Site_addCut_43 : decode b_Site_addCut 43 = .ok (.dup, 1) := by decide +kernel
theorem d_Site_addCut_44 : decode b_Site_addCut 44 = .ok (.getfield 67, 3) := by decide +kernel
theorem d_Site_addCut_47 : decode b_Site_addCut 47 = .ok (.iconst 1, 1) := by decide +kernel
theorem d_Site_addCut_48 : decode b_Site_addCut 48 = .ok (.iadd, 1) := by decide +kernel
theorem d_Site_addCut_49 : decode b_Site_addCut 49 = .ok (.putfield 67, 3) := by decide +kernel
theorem d_Site_addCut_52 : decode b_Site_addCut 52 = .ok (.aload_n 0, 1) := by decide +kernel
theorem d_Site_addCut_53 : decode b_Site_addCut 53 = .ok (.getfield 67, 3) := by decide +kernel
theorem d_Site_addCut_56 : decode b_Site_addCut 56 = .ok (.iconst 1, 1) := by decide +kernel
theorem d_Site_addCut_57 : decode b_Site_addCut 57 = .ok (.isub, 1) := by decide +kernel
theorem d_Site_addCut_58 : decode b_Site_addCut 58 = .ok (.ireturn, 1) := by decide +kernel
abbrev b_Site_addFill : ByteArray := prog_4_method_3_code
def y_Site_addFill : MethodName := ⟨R_Site, "addFill", "(JIJ)I"⟩
def u_Site_addFill : List Cond := Cond.code y_Site_addFill b_Site_addFill 6 (some .int) :: wG
theorem d_Site_addFill_0 : decode b_Site_addFill 0 = .ok (.aload_n 0, 1) := by decide +kernel
theorem d_Site_addFill_1 : decode b_Site_addFill 1 = .ok (.getfield 38, 3) := by decide +kernel
theorem d_Site_addFill_4 : decode b_Site_addFill 4 = .ok (.aload_n 0, 1) := by decide +kernel
theorem d_Site_addFill_5 : decode b_Site_addFill 5 = .ok (.getfield 71, 3) := by decide +kernel
theorem d_Site_addFill_8 : decode b_Site_addFill 8 = .ok (.lload_n 1, 1) := by decide +kernel
theorem d_Site_addFill_9 : decode b_Site_addFill 9 = .ok (.lastore, 1) := by decide +kernel
theorem d_Site_addFill_10 : decode b_Site_addFill 10 = .ok (.aload_n 0, 1) := by decide +kernel
theorem d_Site_addFill_11 : decode b_Site_addFill 11 = .ok (.getfield 44, 3) := by decide +kernel
theorem d_Site_addFill_14 : decode b_Site_addFill 14 = .ok (.aload_n 0, 1) := by decide +kernel
theorem d_Site_addFill_15 : decode b_Site_addFill 15 = .ok (.getfield 71, 3) := by decide +kernel
theorem d_Site_addFill_18 : decode b_Site_addFill 18 = .ok (.iload_n 3, 1) := by decide +kernel
theorem d_Site_addFill_19 : decode b_Site_addFill 19 = .ok (.iastore, 1) := by decide +kernel
theorem d_Site_addFill_20 : decode b_Site_addFill 20 = .ok (.aload_n 0, 1) := by decide +kernel
theorem d_Site_addFill_21 : decode b_Site_addFill 21 = .ok (.getfield 41, 3) := by decide +kernel
theorem d_Site_addFill_24 : decode b_Site_addFill 24 = .ok (.aload_n 0, 1) := by decide +kernel
theorem d_Site_addFill_25 : decode b_Site_addFill 25 = .ok (.getfield 71, 3) := by decide +kernel
theorem d_Site_addFill_28 : decode b_Site_addFill 28 = .ok (.lload 4, 2) := by decide +kernel
theorem d_Site_addFill_30 : decode b_Site_addFill 30 = .ok (.lastore, 1) := by decide +kernel
theorem d_Site_addFill_31 : decode b_Site_addFill 31 = .ok (.aload_n 0, 1) := by decide +kernel
theorem d_Site_addFill_32 : decode b_Site_addFill 32 = .ok (.dup, 1) := by decide +kernel
theorem d_Site_addFill_33 : decode b_Site_addFill 33 = .ok (.getfield 71, 3) := by decide +kernel
theorem d_Site_addFill_36 : decode b_Site_addFill 36 = .ok (.iconst 1, 1) := by decide +kernel
theorem d_Site_addFill_37 : decode b_Site_addFill 37 = .ok (.iadd, 1) := by decide +kernel
theorem d_Site_addFill_38 : decode b_Site_addFill 38 = .ok (.putfield 71, 3) := by decide +kernel
theorem d_Site_addFill_41 : decode b_Site_addFill 41 = .ok (.aload_n 0, 1) := by decide +kernel
theorem d_Site_addFill_42 : decode b_Site_addFill 42 = .ok (.getfield 71, 3) := by decide +kernel
theorem d_Site_addFill_45 : decode b_Site_addFill 45 = .ok (.iconst 1, 1) := by decide +kernel
theorem d_Site_addFill_46 : decode b_Site_addFill 46 = .ok (.isub, 1) := by decide +kernel
theorem d_Site_addFill_47 : decode b_Site_addFill 47 = .ok (.ireturn, 1) := by decide +kernel
abbrev b_Site_addPit : ByteArray := prog_4_method_4_code
def y_Site_addPit : MethodName := ⟨R_Site, "addPit", "(JJ)I"⟩
def u_Site_addPit : List Cond := Cond.code y_Site_addPit b_Site_addPit 5 (some .int) :: wG
theorem d_Site_addPit_0 : decode b_Site_addPit 0 = .ok (.aload_n 0, 1) := by decide +kernel
theorem d_Site_addPit_1 : decode b_Site_addPit 1 = .ok (.getfield 32, 3) := by decide +kernel
theorem d_Site_addPit_4 : decode b_Site_addPit 4 = .ok (.aload_n 0, 1) := by decide +kernel
theorem d_Site_addPit_5 : decode b_Site_addPit 5 = .ok (.getfield 74, 3) := by decide +kernel
theorem d_Site_addPit_8 : decode b_Site_addPit 8 = .ok (.lload_n 1, 1) := by decide +kernel
theorem d_Site_addPit_9 : decode b_Site_addPit 9 = .ok (.lastore, 1) := by decide +kernel
theorem d_Site_addPit_10 : decode b_Site_addPit 10 = .ok (.aload_n 0, 1) := by decide +kernel
theorem d_Site_addPit_11 : decode b_Site_addPit 11 = .ok (.getfield 35, 3) := by decide +kernel
theorem d_Site_addPit_14 : decode b_Site_addPit 14 = .ok (.aload_n 0, 1) := by decide +kernel
theorem d_Site_addPit_15 : decode b_Site_addPit 15 = .ok (.getfield 74, 3) := by decide +kernel
theorem d_Site_addPit_18 : decode b_Site_addPit 18 = .ok (.lload_n 3, 1) := by decide +kernel
theorem d_Site_addPit_19 : decode b_Site_addPit 19 = .ok (.lastore, 1) := by decide +kernel
theorem d_Site_addPit_20 : decode b_Site_addPit 20 = .ok (.aload_n 0, 1) := by decide +kernel
theorem d_Site_addPit_21 : decode b_Site_addPit 21 = .ok (.dup, 1) := by decide +kernel
theorem d_Site_addPit_22 : decode b_Site_addPit 22 = .ok (.getfield 74, 3) := by decide +kernel
theorem d_Site_addPit_25 : decode b_Site_addPit 25 = .ok (.iconst 1, 1) := by decide +kernel
theorem d_Site_addPit_26 : decode b_Site_addPit 26 = .ok (.iadd, 1) := by decide +kernel
theorem d_Site_addPit_27 : decode b_Site_addPit 27 = .ok (.putfield 74, 3) := by decide +kernel
theorem d_Site_addPit_30 : decode b_Site_addPit 30 = .ok (.aload_n 0, 1) := by decide +kernel
theorem d_Site_addPit_31 : decode b_Site_addPit 31 = .ok (.getfield 74, 3) := by decide +kernel
theorem d_Site_addPit_34 : decode b_Site_addPit 34 = .ok (.iconst 1, 1) := by decide +kernel
theorem d_Site_addPit_35 : decode b_Site_addPit 35 = .ok (.isub, 1) := by decide +kernel
theorem d_Site_addPit_36 : decode b_Site_addPit 36 = .ok (.ireturn, 1) := by decide +kernel
abbrev b_Site_setFit : ByteArray := prog_4_method_5_code
def y_Site_setFit : MethodName := ⟨R_Site, "setFit", "(IIZ)V"⟩
def u_Site_setFit : List Cond := Cond.code y_Site_setFit b_Site_setFit 4 none :: wG
theorem d_Site_setFit_0 : decode b_Site_setFit 0 = .ok (.iload_n 3, 1) := by decide +kernel
theorem d_Site_setFit_1 : decode b_Site_setFit 1 = .ok (.ifCond .eq 20, 3) := by decide +kernel
theorem d_Site_setFit_4 : decode b_Site_setFit 4 = .ok (.aload_n 0, 1) := by decide +kernel
theorem d_Site_setFit_5 : decode b_Site_setFit 5 = .ok (.getfield 53, 3) := by decide +kernel
theorem d_Site_setFit_8 : decode b_Site_setFit 8 = .ok (.iload_n 1, 1) := by decide +kernel
theorem d_Site_setFit_9 : decode b_Site_setFit 9 = .ok (.dup2, 1) := by decide +kernel
theorem d_Site_setFit_10 : decode b_Site_setFit 10 = .ok (.iaload, 1) := by decide +kernel
theorem d_Site_setFit_11 : decode b_Site_setFit 11 = .ok (.iconst 1, 1) := by decide +kernel
theorem d_Site_setFit_12 : decode b_Site_setFit 12 = .ok (.iload_n 2, 1) := by decide +kernel
theorem d_Site_setFit_13 : decode b_Site_setFit 13 = .ok (.ishl, 1) := by decide +kernel
theorem d_Site_setFit_14 : decode b_Site_setFit 14 = .ok (.iconst (-1), 1) := by decide +kernel
theorem d_Site_setFit_15 : decode b_Site_setFit 15 = .ok (.ixor, 1) := by decide +kernel
theorem d_Site_setFit_16 : decode b_Site_setFit 16 = .ok (.iand, 1) := by decide +kernel
theorem d_Site_setFit_17 : decode b_Site_setFit 17 = .ok (.iastore, 1) := by decide +kernel
theorem d_Site_setFit_18 : decode b_Site_setFit 18 = .ok (.goto 15, 3) := by decide +kernel
theorem d_Site_setFit_21 : decode b_Site_setFit 21 = .ok (.aload_n 0, 1) := by decide +kernel
theorem d_Site_setFit_22 : decode b_Site_setFit 22 = .ok (.getfield 53, 3) := by decide +kernel
theorem d_Site_setFit_25 : decode b_Site_setFit 25 = .ok (.iload_n 1, 1) := by decide +kernel
theorem d_Site_setFit_26 : decode b_Site_setFit 26 = .ok (.dup2, 1) := by decide +kernel
theorem d_Site_setFit_27 : decode b_Site_setFit 27 = .ok (.iaload, 1) := by decide +kernel
theorem d_Site_setFit_28 : decode b_Site_setFit 28 = .ok (.iconst 1, 1) := by decide +kernel
theorem d_Site_setFit_29 : decode b_Site_setFit 29 = .ok (.iload_n 2, 1) := by decide +kernel
theorem d_Site_setFit_30 : decode b_Site_setFit 30 = .ok (.ishl, 1) := by decide +kernel
theorem d_Site_setFit_31 : decode b_Site_setFit 31 = .ok (.ior, 1) := by decide +kernel
theorem d_Site_setFit_32 : decode b_Site_setFit 32 = .ok (.iastore, 1) := by decide +kernel
theorem d_Site_setFit_33 : decode b_Site_setFit 33 = .ok (.return_, 1) := by decide +kernel
def w_S (cI cJ cZ : ClassId) (a : Nat → Nat) (V0 : Nat) (V1 : Nat) (V2 : Nat) (N0 : Nat → Nat) (N1 : Nat → Nat) (N2 : Nat → Nat) (L0 : Nat → Int64) (L1 : Nat → Int64) (L2 : Nat → Int64) (L3 : Nat → Int64) (L4 : Nat → Int64) (L5 : Nat → Int64) (L6 : Nat → Int64) (L7 : Nat → Int64) (L8 : Nat → Int64) (I0 : Nat → Int32) (aY : Nat → Nat) : va_W :=
  [(a 0, .inr (2, [.int (nI V0), .int (nI V1), .int (nI V2), .ref (aY 0), .ref (a 1), .ref (a 2), .ref (a 3), .ref (a 4), .ref (a 5), .ref (a 6), .ref (a 7), .ref (a 8), .ref (a 9), .ref (a 10), .ref (a 11), .ref (a 12), .ref (a 13)])),
   (a 1, .inl (cJ, 8, .inr (.inl L0))),
   (a 2, .inl (cJ, 8, .inr (.inl L1))),
   (a 3, .inl (cI, 8, .inl (fun j => nI (N0 j)))),
   (a 4, .inl (cI, 8, .inl (fun j => nI (N1 j)))),
   (a 5, .inl (cJ, 4, .inr (.inl L2))),
   (a 6, .inl (cJ, 4, .inr (.inl L3))),
   (a 7, .inl (cJ, 8, .inr (.inl L4))),
   (a 8, .inl (cJ, 8, .inr (.inl L5))),
   (a 9, .inl (cI, 8, .inl (fun j => nI (N2 j)))),
   (a 10, .inl (cJ, 4, .inr (.inl L6))),
   (a 11, .inl (cJ, 4, .inr (.inl L7))),
   (a 12, .inl (cI, 4, .inl I0)),
   (a 13, .inl (cJ, 12, .inr (.inl L8)))]
def f_Site_sources (VS0 : Nat) (VS1 : Nat) : Nat :=
  (VS0 + VS1)
set_option maxHeartbeats 4000000 in
set_option maxRecDepth 100000 in
theorem c_Site_sources (l : Launch) (dC : Nat → ClassId) (dI : Nat → Nat → Nat) (cI cJ cZ : ClassId) (sz : Nat) (aS : Nat → Nat) (VS0 : Nat) (VS1 : Nat) (VS2 : Nat) (NS0 : Nat → Nat) (NS1 : Nat → Nat) (NS2 : Nat → Nat) (LS0 : Nat → Int64) (LS1 : Nat → Int64) (LS2 : Nat → Int64) (LS3 : Nat → Int64) (LS4 : Nat → Int64) (LS5 : Nat → Int64) (LS6 : Nat → Int64) (LS7 : Nat → Int64) (LS8 : Nat → Int64) (IS0 : Nat → Int32) (aY : Nat → Nat) (VY0 : Nat) (LY0 : Nat → Int64) (LY1 : Nat → Int64) (LY2 : Nat → Int64) (IY0 : Nat → Int32) : hh_Ci l y_Site_sources u_Site_sources ({ frames := 0, cells := 0, slots := 0, locals := 0 }) (dC, dI) vwCl [(cI, .int), (cJ, .long), (cZ, .boolean)] (w_S cI cJ cZ aS VS0 VS1 VS2 NS0 NS1 NS2 LS0 LS1 LS2 LS3 LS4 LS5 LS6 LS7 LS8 IS0 aY ++ w_Y cI cJ cZ aY VY0 LY0 LY1 LY2 IY0) sz [.ref (aS 0)] (nI (f_Site_sources VS0 VS1)) (w_S cI cJ cZ aS VS0 VS1 VS2 NS0 NS1 NS2 LS0 LS1 LS2 LS3 LS4 LS5 LS6 LS7 LS8 IS0 aY ++ w_Y cI cJ cZ aY VY0 LY0 LY1 LY2 IY0) 0 0 := by
  unfold hh_Ci
  refine Met.ofW (cc := b_Site_sources) (maxL := 1) (ret := (some .int)) (by decide) rfl ?_
  intro p e s m args below meth c s₁ B hml hv
  obtain ⟨rfl, hsz, hP, hK, hD0⟩ := hv
  have hx := B.exec
  have hb := B.bytes
  have hr := B.returns
  have hts := atoms_spec (ws := u_Site_sources) B.pre
  have hG : ∀ w ∈ wG, w.before ([.ref (aS 0)]).toArray s = true := fun w h => hts w (List.mem_cons_of_mem _ h)
  have hown : s.vm.findClass R_Site = some m.cls := findClass_of_methodNamed B.named
  have hlocks := B.notSynchronized
  subst hsz
  have hD := hD0.self (sz := s.heap.size)
  generalize hAe : va_A (w_S cI cJ cZ aS VS0 VS1 VS2 NS0 NS1 NS2 LS0 LS1 LS2 LS3 LS4 LS5 LS6 LS7 LS8 IS0 aY ++ w_Y cI cJ cZ aY VY0 LY0 LY1 LY2 IY0) s.heap.size = A at hD ⊢
  have hA : ∀ q : Nat, s.heap.size ≤ q → A q := fun q h => by rw [← hAe]; exact Or.inr h
  have hS : va_S A s.heap s.heap [] := va_S.rf
  have hl := lv_entry ([.ref (aS 0)]) (n := 1) (Nat.le_of_ble_eq_true rfl)
  rw [lg_entry_eq]
  generalize (lg_sl ([.ref (aS 0)]) ++ List.replicate (1 - (lg_sl ([.ref (aS 0)])).length) Slot.unset).toArray = ls at hl ⊢
  have hl : lv_has ls 1 [(0, .ref (aS 0))] := hl
  generalize hR : f_Site_sources VS0 VS1 = r0
  obtain ⟨H, locs, hHe, hle⟩ : ∃ (H : Heap) (locs : List Loc), s.heap = H ∧ [] = locs := ⟨_, _, rfl, rfl⟩
  have hP : va_P (dC, dI) vwCl (w_S cI cJ cZ aS VS0 VS1 VS2 NS0 NS1 NS2 LS0 LS1 LS2 LS3 LS4 LS5 LS6 LS7 LS8 IS0 aY ++ w_Y cI cJ cZ aY VY0 LY0 LY1 LY2 IY0) H := by rw [← hHe]; exact hP
  have hS : va_S A s.heap H locs := by rw [← hHe, ← hle]; exact hS
  refine hw_start hHe hle ?_
  unfold f_Site_sources at hR
  refine lv_aload_n hx hb d_Site_sources_0 rfl (lv_at hl 0 rfl) ?_
  refine va_get (D := (dC, dI)) (ci := 2) (v := .int (nI VS0)) (C := R_Site) (T := T_Site) (N := 17) hx hb hG in_Site hown hK hP 0 rfl rfl 0 (by decide) (hG _ m_56) (fun _ h9 => h9) rfl d_Site_sources_1 ?_
  refine lv_aload_n hx hb d_Site_sources_4 rfl (lv_at hl 0 rfl) ?_
  refine va_get (D := (dC, dI)) (ci := 2) (v := .int (nI VS1)) (C := R_Site) (T := T_Site) (N := 17) hx hb hG in_Site hown hK hP 0 rfl rfl 1 (by decide) (hG _ m_58) (fun _ h9 => h9) rfl d_Site_sources_5 ?_
  refine hw_iadd hx hb d_Site_sources_8 ?_
  subst hR
  exact W.iret (v := nI (VS0 + VS1)) hx hb hr (fun t ht hW => ⟨⟨_, (), rfl, rfl, by rw [ht]; exact hP, va_K.moved hW.alike hK, hD⟩, hS.F ht⟩) hS.2.2 d_Site_sources_9
def f_Site_gives (NS0 : Nat → Nat) (LS0 : Nat → Int64) (LS6 : Nat → Int64) (LS7 : Nat → Int64) (x1 : Nat) : Int64 :=
  if 1 ≤ (LS7 (NS0 x1)) then (((LS0 x1) * (LS6 (NS0 x1))) / (LS7 (NS0 x1))) else (0)
set_option maxHeartbeats 4000000 in
set_option maxRecDepth 100000 in
theorem c_Site_gives (l : Launch) (dC : Nat → ClassId) (dI : Nat → Nat → Nat) (cI cJ cZ : ClassId) (sz : Nat) (aS : Nat → Nat) (VS0 : Nat) (VS1 : Nat) (VS2 : Nat) (NS0 : Nat → Nat) (NS1 : Nat → Nat) (NS2 : Nat → Nat) (LS0 : Nat → Int64) (LS1 : Nat → Int64) (LS2 : Nat → Int64) (LS3 : Nat → Int64) (LS4 : Nat → Int64) (LS5 : Nat → Int64) (LS6 : Nat → Int64) (LS7 : Nat → Int64) (LS8 : Nat → Int64) (IS0 : Nat → Int32) (aY : Nat → Nat) (VY0 : Nat) (LY0 : Nat → Int64) (LY1 : Nat → Int64) (LY2 : Nat → Int64) (IY0 : Nat → Int32) (x1 : Nat) (hk4 : ∀ i, NS0 i < 4) (hx1 : x1 < 8) : hh_Cl l y_Site_gives u_Site_gives ({ frames := 0, cells := 0, slots := 0, locals := 0 }) (dC, dI) vwCl [(cI, .int), (cJ, .long), (cZ, .boolean)] (w_S cI cJ cZ aS VS0 VS1 VS2 NS0 NS1 NS2 LS0 LS1 LS2 LS3 LS4 LS5 LS6 LS7 LS8 IS0 aY ++ w_Y cI cJ cZ aY VY0 LY0 LY1 LY2 IY0) sz [.ref (aS 0), .int (nI x1)] (f_Site_gives NS0 LS0 LS6 LS7 x1) (w_S cI cJ cZ aS VS0 VS1 VS2 NS0 NS1 NS2 LS0 LS1 LS2 LS3 LS4 LS5 LS6 LS7 LS8 IS0 aY ++ w_Y cI cJ cZ aY VY0 LY0 LY1 LY2 IY0) 0 0 := by
  unfold hh_Cl
  refine Met.ofW (cc := b_Site_gives) (maxL := 5) (ret := (some .long)) (by decide) rfl ?_
  intro p e s m args below meth c s₁ B hml hv
  obtain ⟨rfl, hsz, hP, hK, hD0⟩ := hv
  have hx := B.exec
  have hb := B.bytes
  have hr := B.returns
  have hts := atoms_spec (ws := u_Site_gives) B.pre
  have hG : ∀ w ∈ wG, w.before ([.ref (aS 0), .int (nI x1)]).toArray s = true := fun w h => hts w (List.mem_cons_of_mem _ h)
  have hown : s.vm.findClass R_Site = some m.cls := findClass_of_methodNamed B.named
  have hlocks := B.notSynchronized
  subst hsz
  have hD := hD0.self (sz := s.heap.size)
  generalize hAe : va_A (w_S cI cJ cZ aS VS0 VS1 VS2 NS0 NS1 NS2 LS0 LS1 LS2 LS3 LS4 LS5 LS6 LS7 LS8 IS0 aY ++ w_Y cI cJ cZ aY VY0 LY0 LY1 LY2 IY0) s.heap.size = A at hD ⊢
  have hA : ∀ q : Nat, s.heap.size ≤ q → A q := fun q h => by rw [← hAe]; exact Or.inr h
  have hS : va_S A s.heap s.heap [] := va_S.rf
  have hl := lv_entry ([.ref (aS 0), .int (nI x1)]) (n := 5) (Nat.le_of_ble_eq_true rfl)
  rw [lg_entry_eq]
  generalize (lg_sl ([.ref (aS 0), .int (nI x1)]) ++ List.replicate (5 - (lg_sl ([.ref (aS 0), .int (nI x1)])).length) Slot.unset).toArray = ls at hl ⊢
  have hl : lv_has ls 5 [(0, .ref (aS 0)), (1, .int (nI x1))] := hl
  generalize hR : f_Site_gives NS0 LS0 LS6 LS7 x1 = r0
  obtain ⟨H, locs, hHe, hle⟩ : ∃ (H : Heap) (locs : List Loc), s.heap = H ∧ [] = locs := ⟨_, _, rfl, rfl⟩
  have hP : va_P (dC, dI) vwCl (w_S cI cJ cZ aS VS0 VS1 VS2 NS0 NS1 NS2 LS0 LS1 LS2 LS3 LS4 LS5 LS6 LS7 LS8 IS0 aY ++ w_Y cI cJ cZ aY VY0 LY0 LY1 LY2 IY0) H := by rw [← hHe]; exact hP
  have hS : va_S A s.heap H locs := by rw [← hHe, ← hle]; exact hS
  refine hw_start hHe hle ?_
  unfold f_Site_gives at hR
  refine lv_aload_n hx hb d_Site_gives_0 rfl (lv_at hl 0 rfl) ?_
  refine va_get (D := (dC, dI)) (ci := 2) (v := .ref (aS 3)) (C := R_Site) (T := T_Site) (N := 17) hx hb hG in_Site hown hK hP 0 rfl rfl 6 (by decide) (hG _ m_68) (fun _ h9 => h9) rfl d_Site_gives_1 ?_
  refine lv_iload_n hx hb d_Site_gives_4 rfl (lv_at hl 1 rfl) ?_
  refine hw_nald (g := NS0) hx hb hK hP 3 0 rfl rfl (by decide) (by omega) d_Site_gives_5 ?_
  have hb5 := hk4 x1
  refine lv_istore_n (lv' := [(2, .int (nI (NS0 x1))), (0, .ref (aS 0)), (1, .int (nI x1))]) hx hb d_Site_gives_6 rfl hl (by decide) rfl (fun ls hl => ?_)
  refine lv_aload_n hx hb d_Site_gives_7 rfl (lv_at hl 1 rfl) ?_
  refine va_get (D := (dC, dI)) (ci := 2) (v := .ref (aS 11)) (C := R_Site) (T := T_Site) (N := 17) hx hb hG in_Site hown hK hP 0 rfl rfl 14 (by decide) (hG _ m_84) (fun _ h9 => h9) rfl d_Site_gives_8 ?_
  refine lv_iload_n hx hb d_Site_gives_11 rfl (lv_at hl 0 rfl) ?_
  refine hw_lald (f := LS7) hx hb hK hP 11 1 rfl rfl (by decide) (by omega) d_Site_gives_12 ?_
  refine lv_lstore_n (lv' := [(3, .long (LS7 (NS0 x1))), (2, .int (nI (NS0 x1))), (0, .ref (aS 0)), (1, .int (nI x1))]) hx hb d_Site_gives_13 rfl hl (by decide) rfl (fun ls hl => ?_)
  refine lv_lload_n hx hb d_Site_gives_14 rfl (lv_at hl 0 rfl) ?_
  refine lv_lconst (v := 1) hx hb d_Site_gives_15 (by decide) ?_
  refine hw_lcmp_ge (tgt := 24) hx hb d_Site_gives_16 d_Site_gives_17 (by decide) (fun c16 => ?_) (fun c16 => ?_)
  · replace hR := (if_pos c16).symm.trans hR
    refine lv_aload_n hx hb d_Site_gives_24 rfl (lv_at hl 2 rfl) ?_
    refine va_get (D := (dC, dI)) (ci := 2) (v := .ref (aS 1)) (C := R_Site) (T := T_Site) (N := 17) hx hb hG in_Site hown hK hP 0 rfl rfl 4 (by decide) (hG _ m_66) (fun _ h9 => h9) rfl d_Site_gives_25 ?_
    refine lv_iload_n hx hb d_Site_gives_28 rfl (lv_at hl 3 rfl) ?_
    refine hw_lald (f := LS0) hx hb hK hP 1 1 rfl rfl (by decide) (by omega) d_Site_gives_29 ?_
    refine lv_aload_n hx hb d_Site_gives_30 rfl (lv_at hl 2 rfl) ?_
    refine va_get (D := (dC, dI)) (ci := 2) (v := .ref (aS 10)) (C := R_Site) (T := T_Site) (N := 17) hx hb hG in_Site hown hK hP 0 rfl rfl 13 (by decide) (hG _ m_82) (fun _ h9 => h9) rfl d_Site_gives_31 ?_
    refine lv_iload_n hx hb d_Site_gives_34 rfl (lv_at hl 1 rfl) ?_
    refine hw_lald (f := LS6) hx hb hK hP 10 1 rfl rfl (by decide) (by omega) d_Site_gives_35 ?_
    refine lv_lmul hx hb d_Site_gives_36 ?_
    refine lv_lload_n hx hb d_Site_gives_37 rfl (lv_at hl 0 rfl) ?_
    refine lv_ldiv hx hb d_Site_gives_38 (hw_ne0 (by assumption)) ?_
    subst hR
    exact W.lret (v := ((LS0 x1) * (LS6 (NS0 x1))) / (LS7 (NS0 x1))) hx hb hr (fun t ht hW => ⟨⟨_, (), rfl, rfl, by rw [ht]; exact hP, va_K.moved hW.alike hK, hD⟩, hS.F ht⟩) hS.2.2 d_Site_gives_39
  · replace hR := (if_neg c16).symm.trans hR
    refine lv_lconst (v := 0) hx hb d_Site_gives_20 (by decide) ?_
    refine lv_goto (tgt := 39) hx hb d_Site_gives_21 (by decide) ?_
    subst hR
    exact W.lret (v := 0) hx hb hr (fun t ht hW => ⟨⟨_, (), rfl, rfl, by rw [ht]; exact hP, va_K.moved hW.alike hK, hD⟩, hS.F ht⟩) hS.2.2 d_Site_gives_39
def f_Site_capacity (VS0 : Nat) (NS0 : Nat → Nat) (LS0 : Nat → Int64) (LS6 : Nat → Int64) (LS7 : Nat → Int64) (x1 : Nat) : Int64 :=
  if VS0 ≤ x1 then (1099511627776) else (hh_bind (f_Site_gives NS0 LS0 LS6 LS7 x1) (fun y10 => (y10)))
set_option maxHeartbeats 4000000 in
set_option maxRecDepth 100000 in
theorem c_Site_capacity (l : Launch) (dC : Nat → ClassId) (dI : Nat → Nat → Nat) (cI cJ cZ : ClassId) (sz : Nat) (aS : Nat → Nat) (VS0 : Nat) (VS1 : Nat) (VS2 : Nat) (NS0 : Nat → Nat) (NS1 : Nat → Nat) (NS2 : Nat → Nat) (LS0 : Nat → Int64) (LS1 : Nat → Int64) (LS2 : Nat → Int64) (LS3 : Nat → Int64) (LS4 : Nat → Int64) (LS5 : Nat → Int64) (LS6 : Nat → Int64) (LS7 : Nat → Int64) (LS8 : Nat → Int64) (IS0 : Nat → Int32) (aY : Nat → Nat) (VY0 : Nat) (LY0 : Nat → Int64) (LY1 : Nat → Int64) (LY2 : Nat → Int64) (IY0 : Nat → Int32) (x1 : Nat) (hc8 : VS0 ≤ 8) (hk4 : ∀ i, NS0 i < 4) (hx1 : x1 < 12) : hh_Cl l y_Site_capacity u_Site_capacity ({ frames := 1, cells := 0, slots := 0, locals := 24 }) (dC, dI) vwCl [(cI, .int), (cJ, .long), (cZ, .boolean)] (w_S cI cJ cZ aS VS0 VS1 VS2 NS0 NS1 NS2 LS0 LS1 LS2 LS3 LS4 LS5 LS6 LS7 LS8 IS0 aY ++ w_Y cI cJ cZ aY VY0 LY0 LY1 LY2 IY0) sz [.ref (aS 0), .int (nI x1)] (f_Site_capacity VS0 NS0 LS0 LS6 LS7 x1) (w_S cI cJ cZ aS VS0 VS1 VS2 NS0 NS1 NS2 LS0 LS1 LS2 LS3 LS4 LS5 LS6 LS7 LS8 IS0 aY ++ w_Y cI cJ cZ aY VY0 LY0 LY1 LY2 IY0) 0 0 := by
  unfold hh_Cl
  refine Met.ofW (cc := b_Site_capacity) (maxL := 2) (ret := (some .long)) (by decide) rfl ?_
  intro p e s m args below meth c s₁ B hml hv
  obtain ⟨rfl, hsz, hP, hK, hD0⟩ := hv
  have hx := B.exec
  have hb := B.bytes
  have hr := B.returns
  have hts := atoms_spec (ws := u_Site_capacity) B.pre
  have hG : ∀ w ∈ wG, w.before ([.ref (aS 0), .int (nI x1)]).toArray s = true := fun w h => hts w (List.mem_cons_of_mem _ h)
  have hown : s.vm.findClass R_Site = some m.cls := findClass_of_methodNamed B.named
  have hlocks := B.notSynchronized
  subst hsz
  have hD := hD0.self (sz := s.heap.size)
  generalize hAe : va_A (w_S cI cJ cZ aS VS0 VS1 VS2 NS0 NS1 NS2 LS0 LS1 LS2 LS3 LS4 LS5 LS6 LS7 LS8 IS0 aY ++ w_Y cI cJ cZ aY VY0 LY0 LY1 LY2 IY0) s.heap.size = A at hD ⊢
  have hA : ∀ q : Nat, s.heap.size ≤ q → A q := fun q h => by rw [← hAe]; exact Or.inr h
  have hS : va_S A s.heap s.heap [] := va_S.rf
  have hl := lv_entry ([.ref (aS 0), .int (nI x1)]) (n := 2) (Nat.le_of_ble_eq_true rfl)
  rw [lg_entry_eq]
  generalize (lg_sl ([.ref (aS 0), .int (nI x1)]) ++ List.replicate (2 - (lg_sl ([.ref (aS 0), .int (nI x1)])).length) Slot.unset).toArray = ls at hl ⊢
  have hl : lv_has ls 2 [(0, .ref (aS 0)), (1, .int (nI x1))] := hl
  generalize hR : f_Site_capacity VS0 NS0 LS0 LS6 LS7 x1 = r0
  obtain ⟨H, locs, hHe, hle⟩ : ∃ (H : Heap) (locs : List Loc), s.heap = H ∧ [] = locs := ⟨_, _, rfl, rfl⟩
  have hP : va_P (dC, dI) vwCl (w_S cI cJ cZ aS VS0 VS1 VS2 NS0 NS1 NS2 LS0 LS1 LS2 LS3 LS4 LS5 LS6 LS7 LS8 IS0 aY ++ w_Y cI cJ cZ aY VY0 LY0 LY1 LY2 IY0) H := by rw [← hHe]; exact hP
  have hS : va_S A s.heap H locs := by rw [← hHe, ← hle]; exact hS
  refine hw_start hHe hle ?_
  unfold f_Site_capacity at hR
  refine lv_iload_n hx hb d_Site_capacity_0 rfl (lv_at hl 1 rfl) ?_
  refine lv_aload_n hx hb d_Site_capacity_1 rfl (lv_at hl 0 rfl) ?_
  refine va_get (D := (dC, dI)) (ci := 2) (v := .int (nI VS0)) (C := R_Site) (T := T_Site) (N := 17) hx hb hG in_Site hown hK hP 0 rfl rfl 0 (by decide) (hG _ m_56) (fun _ h9 => h9) rfl d_Site_capacity_2 ?_
  refine hw_icmp_ge (tgt := 16) hx hb d_Site_capacity_5 (by decide) (by omega) (by omega) (fun c5 => ?_) (fun c5 => ?_)
  · replace hR := (if_pos c5).symm.trans hR
    refine lv_ldc2 (v := 1099511627776) hx hb hown (hG _ m_55) d_Site_capacity_16 ?_
    subst hR
    exact W.lret (v := 1099511627776) hx hb hr (fun t ht hW => ⟨⟨_, (), rfl, rfl, by rw [ht]; exact hP, va_K.moved hW.alike hK, hD⟩, hS.F ht⟩) hS.2.2 d_Site_capacity_19
  · replace hR := (if_neg c5).symm.trans hR
    refine lv_aload_n hx hb d_Site_capacity_8 rfl (lv_at hl 0 rfl) ?_
    refine lv_iload_n hx hb d_Site_capacity_9 rfl (lv_at hl 1 rfl) ?_
    obtain ⟨y10, hy10, hR⟩ := hw_bind hR
    have hM := c_Site_gives l dC dI cI cJ cZ H.size aS VS0 VS1 VS2 NS0 NS1 NS2 LS0 LS1 LS2 LS3 LS4 LS5 LS6 LS7 LS8 IS0 aY VY0 LY0 LY1 LY2 IY0 x1 (by first | assumption | omega) (by first | assumption | omega)
    rw [hy10] at hM
    refine hw_callVl (As := [.int (nI x1)]) (rest := []) (wr := ([] : va_W)) ⟨hx, hb, hml, hown, hG⟩ hM (hw_cwV 1 hG m_386 m_357 m_358 m_2 m_359 rfl rfl (by decide +kernel) ⟨Nat.le_of_ble_eq_true rfl, Nat.le_of_ble_eq_true rfl⟩) hK hP hD hS hA [0, 1, 2, 3, 4, 5, 6, 7, 8, 9, 10, 11, 12, 13, 14, 15, 16, 17, 18] [] rfl rfl (by decide) (by decide) (by decide) (hw_recv hK hP 0 rfl rfl) rfl hl.1 rfl (Nat.le_of_ble_eq_true rfl) d_Site_capacity_10 ⟨Nat.le_of_ble_eq_true rfl, Nat.le_of_ble_eq_true rfl⟩ (fun H locs hP hD hS => ?_)
    have hP : va_P (dC, dI) vwCl (w_S cI cJ cZ aS VS0 VS1 VS2 NS0 NS1 NS2 LS0 LS1 LS2 LS3 LS4 LS5 LS6 LS7 LS8 IS0 aY ++ w_Y cI cJ cZ aY VY0 LY0 LY1 LY2 IY0) H := hP
    have hD : va_D A (w_S cI cJ cZ aS VS0 VS1 VS2 NS0 NS1 NS2 LS0 LS1 LS2 LS3 LS4 LS5 LS6 LS7 LS8 IS0 aY ++ w_Y cI cJ cZ aY VY0 LY0 LY1 LY2 IY0) := hD
    refine lv_goto (tgt := 19) hx hb d_Site_capacity_13 (by decide) ?_
    subst hR
    exact W.lret (v := y10) hx hb hr (fun t ht hW => ⟨⟨_, (), rfl, rfl, by rw [ht]; exact hP, va_K.moved hW.alike hK, hD⟩, hS.F ht⟩) hS.2.2 d_Site_capacity_19
def f_Site_metreOf (VS0 : Nat) (LS1 : Nat → Int64) (LS2 : Nat → Int64) (x1 : Nat) : Int64 :=
  if VS0 ≤ x1 then (LS2 (x1 - VS0)) else (LS1 x1)
set_option maxHeartbeats 4000000 in
set_option maxRecDepth 100000 in
theorem c_Site_metreOf (l : Launch) (dC : Nat → ClassId) (dI : Nat → Nat → Nat) (cI cJ cZ : ClassId) (sz : Nat) (aS : Nat → Nat) (VS0 : Nat) (VS1 : Nat) (VS2 : Nat) (NS0 : Nat → Nat) (NS1 : Nat → Nat) (NS2 : Nat → Nat) (LS0 : Nat → Int64) (LS1 : Nat → Int64) (LS2 : Nat → Int64) (LS3 : Nat → Int64) (LS4 : Nat → Int64) (LS5 : Nat → Int64) (LS6 : Nat → Int64) (LS7 : Nat → Int64) (LS8 : Nat → Int64) (IS0 : Nat → Int32) (aY : Nat → Nat) (VY0 : Nat) (LY0 : Nat → Int64) (LY1 : Nat → Int64) (LY2 : Nat → Int64) (IY0 : Nat → Int32) (x1 : Nat) (hc8 : VS0 ≤ 8) (hp4 : VS1 ≤ 4) (hx1 : x1 < (VS0 + VS1)) : hh_Cl l y_Site_metreOf u_Site_metreOf ({ frames := 0, cells := 0, slots := 0, locals := 0 }) (dC, dI) vwCl [(cI, .int), (cJ, .long), (cZ, .boolean)] (w_S cI cJ cZ aS VS0 VS1 VS2 NS0 NS1 NS2 LS0 LS1 LS2 LS3 LS4 LS5 LS6 LS7 LS8 IS0 aY ++ w_Y cI cJ cZ aY VY0 LY0 LY1 LY2 IY0) sz [.ref (aS 0), .int (nI x1)] (f_Site_metreOf VS0 LS1 LS2 x1) (w_S cI cJ cZ aS VS0 VS1 VS2 NS0 NS1 NS2 LS0 LS1 LS2 LS3 LS4 LS5 LS6 LS7 LS8 IS0 aY ++ w_Y cI cJ cZ aY VY0 LY0 LY1 LY2 IY0) 0 0 := by
  unfold hh_Cl
  refine Met.ofW (cc := b_Site_metreOf) (maxL := 2) (ret := (some .long)) (by decide) rfl ?_
  intro p e s m args below meth c s₁ B hml hv
  obtain ⟨rfl, hsz, hP, hK, hD0⟩ := hv
  have hx := B.exec
  have hb := B.bytes
  have hr := B.returns
  have hts := atoms_spec (ws := u_Site_metreOf) B.pre
  have hG : ∀ w ∈ wG, w.before ([.ref (aS 0), .int (nI x1)]).toArray s = true := fun w h => hts w (List.mem_cons_of_mem _ h)
  have hown : s.vm.findClass R_Site = some m.cls := findClass_of_methodNamed B.named
  have hlocks := B.notSynchronized
  subst hsz
  have hD := hD0.self (sz := s.heap.size)
  generalize hAe : va_A (w_S cI cJ cZ aS VS0 VS1 VS2 NS0 NS1 NS2 LS0 LS1 LS2 LS3 LS4 LS5 LS6 LS7 LS8 IS0 aY ++ w_Y cI cJ cZ aY VY0 LY0 LY1 LY2 IY0) s.heap.size = A at hD ⊢
  have hA : ∀ q : Nat, s.heap.size ≤ q → A q := fun q h => by rw [← hAe]; exact Or.inr h
  have hS : va_S A s.heap s.heap [] := va_S.rf
  have hl := lv_entry ([.ref (aS 0), .int (nI x1)]) (n := 2) (Nat.le_of_ble_eq_true rfl)
  rw [lg_entry_eq]
  generalize (lg_sl ([.ref (aS 0), .int (nI x1)]) ++ List.replicate (2 - (lg_sl ([.ref (aS 0), .int (nI x1)])).length) Slot.unset).toArray = ls at hl ⊢
  have hl : lv_has ls 2 [(0, .ref (aS 0)), (1, .int (nI x1))] := hl
  generalize hR : f_Site_metreOf VS0 LS1 LS2 x1 = r0
  obtain ⟨H, locs, hHe, hle⟩ : ∃ (H : Heap) (locs : List Loc), s.heap = H ∧ [] = locs := ⟨_, _, rfl, rfl⟩
  have hP : va_P (dC, dI) vwCl (w_S cI cJ cZ aS VS0 VS1 VS2 NS0 NS1 NS2 LS0 LS1 LS2 LS3 LS4 LS5 LS6 LS7 LS8 IS0 aY ++ w_Y cI cJ cZ aY VY0 LY0 LY1 LY2 IY0) H := by rw [← hHe]; exact hP
  have hS : va_S A s.heap H locs := by rw [← hHe, ← hle]; exact hS
  refine hw_start hHe hle ?_
  unfold f_Site_metreOf at hR
  refine lv_iload_n hx hb d_Site_metreOf_0 rfl (lv_at hl 1 rfl) ?_
  refine lv_aload_n hx hb d_Site_metreOf_1 rfl (lv_at hl 0 rfl) ?_
  refine va_get (D := (dC, dI)) (ci := 2) (v := .int (nI VS0)) (C := R_Site) (T := T_Site) (N := 17) hx hb hG in_Site hown hK hP 0 rfl rfl 0 (by decide) (hG _ m_56) (fun _ h9 => h9) rfl d_Site_metreOf_2 ?_
  refine hw_icmp_ge (tgt := 17) hx hb d_Site_metreOf_5 (by decide) (by omega) (by omega) (fun c5 => ?_) (fun c5 => ?_)
  · replace hR := (if_pos c5).symm.trans hR
    refine lv_aload_n hx hb d_Site_metreOf_17 rfl (lv_at hl 0 rfl) ?_
    refine va_get (D := (dC, dI)) (ci := 2) (v := .ref (aS 5)) (C := R_Site) (T := T_Site) (N := 17) hx hb hG in_Site hown hK hP 0 rfl rfl 8 (by decide) (hG _ m_70) (fun _ h9 => h9) rfl d_Site_metreOf_18 ?_
    refine lv_iload_n hx hb d_Site_metreOf_21 rfl (lv_at hl 1 rfl) ?_
    refine lv_aload_n hx hb d_Site_metreOf_22 rfl (lv_at hl 0 rfl) ?_
    refine va_get (D := (dC, dI)) (ci := 2) (v := .int (nI VS0)) (C := R_Site) (T := T_Site) (N := 17) hx hb hG in_Site hown hK hP 0 rfl rfl 0 (by decide) (hG _ m_56) (fun _ h9 => h9) rfl d_Site_metreOf_23 ?_
    refine hw_isub hx hb d_Site_metreOf_26 (by omega) ?_
    refine hw_lald (f := LS2) hx hb hK hP 5 1 rfl rfl (by decide) (by omega) d_Site_metreOf_27 ?_
    subst hR
    exact W.lret (v := LS2 (x1 - VS0)) hx hb hr (fun t ht hW => ⟨⟨_, (), rfl, rfl, by rw [ht]; exact hP, va_K.moved hW.alike hK, hD⟩, hS.F ht⟩) hS.2.2 d_Site_metreOf_28
  · replace hR := (if_neg c5).symm.trans hR
    refine lv_aload_n hx hb d_Site_metreOf_8 rfl (lv_at hl 0 rfl) ?_
    refine va_get (D := (dC, dI)) (ci := 2) (v := .ref (aS 2)) (C := R_Site) (T := T_Site) (N := 17) hx hb hG in_Site hown hK hP 0 rfl rfl 5 (by decide) (hG _ m_67) (fun _ h9 => h9) rfl d_Site_metreOf_9 ?_
    refine lv_iload_n hx hb d_Site_metreOf_12 rfl (lv_at hl 1 rfl) ?_
    refine hw_lald (f := LS1) hx hb hK hP 2 1 rfl rfl (by decide) (by omega) d_Site_metreOf_13 ?_
    refine lv_goto (tgt := 28) hx hb d_Site_metreOf_14 (by decide) ?_
    subst hR
    exact W.lret (v := LS1 x1) hx hb hr (fun t ht hW => ⟨⟨_, (), rfl, rfl, by rw [ht]; exact hP, va_K.moved hW.alike hK, hD⟩, hS.F ht⟩) hS.2.2 d_Site_metreOf_28
def f_Site_serves (VS0 : Nat) (NS0 : Nat → Nat) (NS1 : Nat → Nat) (NS2 : Nat → Nat) (IS0 : Nat → Int32) (x1 : Nat) (x2 : Nat) : Int32 :=
  if x1 < VS0 then (if (((IS0 (NS0 x1)) >>> ((nI x2) &&& 31)) &&& (nI 1)) = 0 then (if (NS2 x2) < (NS1 x1) then (nI 0) else (nI 1)) else (nI 0)) else (nI 1)
set_option maxHeartbeats 4000000 in
set_option maxRecDepth 100000 in
theorem c_Site_serves (l : Launch) (dC : Nat → ClassId) (dI : Nat → Nat → Nat) (cI cJ cZ : ClassId) (sz : Nat) (aS : Nat → Nat) (VS0 : Nat) (VS1 : Nat) (VS2 : Nat) (NS0 : Nat → Nat) (NS1 : Nat → Nat) (NS2 : Nat → Nat) (LS0 : Nat → Int64) (LS1 : Nat → Int64) (LS2 : Nat → Int64) (LS3 : Nat → Int64) (LS4 : Nat → Int64) (LS5 : Nat → Int64) (LS6 : Nat → Int64) (LS7 : Nat → Int64) (LS8 : Nat → Int64) (IS0 : Nat → Int32) (aY : Nat → Nat) (VY0 : Nat) (LY0 : Nat → Int64) (LY1 : Nat → Int64) (LY2 : Nat → Int64) (IY0 : Nat → Int32) (x1 : Nat) (x2 : Nat) (hc8 : VS0 ≤ 8) (hk4 : ∀ i, NS0 i < 4) (hcw : ∀ i, NS1 i < 12) (hfw : ∀ i, NS2 i < 12) (hx1 : x1 < 12) (hx2 : x2 < 8) : hh_Ci l y_Site_serves u_Site_serves ({ frames := 0, cells := 0, slots := 0, locals := 0 }) (dC, dI) vwCl [(cI, .int), (cJ, .long), (cZ, .boolean)] (w_S cI cJ cZ aS VS0 VS1 VS2 NS0 NS1 NS2 LS0 LS1 LS2 LS3 LS4 LS5 LS6 LS7 LS8 IS0 aY ++ w_Y cI cJ cZ aY VY0 LY0 LY1 LY2 IY0) sz [.ref (aS 0), .int (nI x1), .int (nI x2)] (f_Site_serves VS0 NS0 NS1 NS2 IS0 x1 x2) (w_S cI cJ cZ aS VS0 VS1 VS2 NS0 NS1 NS2 LS0 LS1 LS2 LS3 LS4 LS5 LS6 LS7 LS8 IS0 aY ++ w_Y cI cJ cZ aY VY0 LY0 LY1 LY2 IY0) 0 0 := by
  unfold hh_Ci
  refine Met.ofW (cc := b_Site_serves) (maxL := 3) (ret := (some .boolean)) (by decide) rfl ?_
  intro p e s m args below meth c s₁ B hml hv
  obtain ⟨rfl, hsz, hP, hK, hD0⟩ := hv
  have hx := B.exec
  have hb := B.bytes
  have hr := B.returns
  have hts := atoms_spec (ws := u_Site_serves) B.pre
  have hG : ∀ w ∈ wG, w.before ([.ref (aS 0), .int (nI x1), .int (nI x2)]).toArray s = true := fun w h => hts w (List.mem_cons_of_mem _ h)
  have hown : s.vm.findClass R_Site = some m.cls := findClass_of_methodNamed B.named
  have hlocks := B.notSynchronized
  subst hsz
  have hD := hD0.self (sz := s.heap.size)
  generalize hAe : va_A (w_S cI cJ cZ aS VS0 VS1 VS2 NS0 NS1 NS2 LS0 LS1 LS2 LS3 LS4 LS5 LS6 LS7 LS8 IS0 aY ++ w_Y cI cJ cZ aY VY0 LY0 LY1 LY2 IY0) s.heap.size = A at hD ⊢
  have hA : ∀ q : Nat, s.heap.size ≤ q → A q := fun q h => by rw [← hAe]; exact Or.inr h
  have hS : va_S A s.heap s.heap [] := va_S.rf
  have hl := lv_entry ([.ref (aS 0), .int (nI x1), .int (nI x2)]) (n := 3) (Nat.le_of_ble_eq_true rfl)
  rw [lg_entry_eq]
  generalize (lg_sl ([.ref (aS 0), .int (nI x1), .int (nI x2)]) ++ List.replicate (3 - (lg_sl ([.ref (aS 0), .int (nI x1), .int (nI x2)])).length) Slot.unset).toArray = ls at hl ⊢
  have hl : lv_has ls 3 [(0, .ref (aS 0)), (1, .int (nI x1)), (2, .int (nI x2))] := hl
  generalize hR : f_Site_serves VS0 NS0 NS1 NS2 IS0 x1 x2 = r0
  obtain ⟨H, locs, hHe, hle⟩ : ∃ (H : Heap) (locs : List Loc), s.heap = H ∧ [] = locs := ⟨_, _, rfl, rfl⟩
  have hP : va_P (dC, dI) vwCl (w_S cI cJ cZ aS VS0 VS1 VS2 NS0 NS1 NS2 LS0 LS1 LS2 LS3 LS4 LS5 LS6 LS7 LS8 IS0 aY ++ w_Y cI cJ cZ aY VY0 LY0 LY1 LY2 IY0) H := by rw [← hHe]; exact hP
  have hS : va_S A s.heap H locs := by rw [← hHe, ← hle]; exact hS
  refine hw_start hHe hle ?_
  unfold f_Site_serves at hR
  refine lv_iload_n hx hb d_Site_serves_0 rfl (lv_at hl 1 rfl) ?_
  refine lv_aload_n hx hb d_Site_serves_1 rfl (lv_at hl 0 rfl) ?_
  refine va_get (D := (dC, dI)) (ci := 2) (v := .int (nI VS0)) (C := R_Site) (T := T_Site) (N := 17) hx hb hG in_Site hown hK hP 0 rfl rfl 0 (by decide) (hG _ m_56) (fun _ h9 => h9) rfl d_Site_serves_2 ?_
  refine hw_icmp_lt (tgt := 10) hx hb d_Site_serves_5 (by decide) (by omega) (by omega) (fun c5 => ?_) (fun c5 => ?_)
  · replace hR := (if_pos c5).symm.trans hR
    refine lv_aload_n hx hb d_Site_serves_10 rfl (lv_at hl 0 rfl) ?_
    refine va_get (D := (dC, dI)) (ci := 2) (v := .ref (aS 12)) (C := R_Site) (T := T_Site) (N := 17) hx hb hG in_Site hown hK hP 0 rfl rfl 15 (by decide) (hG _ m_86) (fun _ h9 => h9) rfl d_Site_serves_11 ?_
    refine lv_aload_n hx hb d_Site_serves_14 rfl (lv_at hl 0 rfl) ?_
    refine va_get (D := (dC, dI)) (ci := 2) (v := .ref (aS 3)) (C := R_Site) (T := T_Site) (N := 17) hx hb hG in_Site hown hK hP 0 rfl rfl 6 (by decide) (hG _ m_68) (fun _ h9 => h9) rfl d_Site_serves_15 ?_
    refine lv_iload_n hx hb d_Site_serves_18 rfl (lv_at hl 1 rfl) ?_
    refine hw_nald (g := NS0) hx hb hK hP 3 0 rfl rfl (by decide) (by omega) d_Site_serves_19 ?_
    have hb19 := hk4 x1
    refine hw_iald (f := IS0) hx hb hK hP 12 0 rfl rfl (by decide) (by omega) d_Site_serves_20 ?_
    refine lv_iload_n hx hb d_Site_serves_21 rfl (lv_at hl 2 rfl) ?_
    refine lv_ishr hx hb d_Site_serves_22 ?_
    refine lv_iconst (v := nI 1) hx hb d_Site_serves_23 (by decide) ?_
    refine lv_iand hx hb d_Site_serves_24 ?_
    refine lv_if_ne (tgt := 47) hx hb d_Site_serves_25 (by decide) (fun c25 => ?_) (fun c25 => ?_)
    · replace hR := (if_neg c25).symm.trans hR
      refine lv_iconst (v := nI 0) hx hb d_Site_serves_47 (by decide) ?_
      subst hR
      exact W.zret (v := nI 0) hx hb hr (by decide) (fun t ht hW => ⟨⟨_, (), rfl, rfl, by rw [ht]; exact hP, va_K.moved hW.alike hK, hD⟩, hS.F ht⟩) hS.2.2 d_Site_serves_48
    · replace hR := (if_pos c25).symm.trans hR
      refine lv_aload_n hx hb d_Site_serves_28 rfl (lv_at hl 0 rfl) ?_
      refine va_get (D := (dC, dI)) (ci := 2) (v := .ref (aS 4)) (C := R_Site) (T := T_Site) (N := 17) hx hb hG in_Site hown hK hP 0 rfl rfl 7 (by decide) (hG _ m_69) (fun _ h9 => h9) rfl d_Site_serves_29 ?_
      refine lv_iload_n hx hb d_Site_serves_32 rfl (lv_at hl 1 rfl) ?_
      refine hw_nald (g := NS1) hx hb hK hP 4 0 rfl rfl (by decide) (by omega) d_Site_serves_33 ?_
      have hb33 := hcw x1
      refine lv_aload_n hx hb d_Site_serves_34 rfl (lv_at hl 0 rfl) ?_
      refine va_get (D := (dC, dI)) (ci := 2) (v := .ref (aS 9)) (C := R_Site) (T := T_Site) (N := 17) hx hb hG in_Site hown hK hP 0 rfl rfl 12 (by decide) (hG _ m_78) (fun _ h9 => h9) rfl d_Site_serves_35 ?_
      refine lv_iload_n hx hb d_Site_serves_38 rfl (lv_at hl 2 rfl) ?_
      refine hw_nald (g := NS2) hx hb hK hP 9 0 rfl rfl (by decide) (by omega) d_Site_serves_39 ?_
      have hb39 := hfw x2
      refine hw_icmp_gt (tgt := 47) hx hb d_Site_serves_40 (by decide) (by omega) (by omega) (fun c40 => ?_) (fun c40 => ?_)
      · replace hR := (if_pos c40).symm.trans hR
        refine lv_iconst (v := nI 0) hx hb d_Site_serves_47 (by decide) ?_
        subst hR
        exact W.zret (v := nI 0) hx hb hr (by decide) (fun t ht hW => ⟨⟨_, (), rfl, rfl, by rw [ht]; exact hP, va_K.moved hW.alike hK, hD⟩, hS.F ht⟩) hS.2.2 d_Site_serves_48
      · replace hR := (if_neg c40).symm.trans hR
        refine lv_iconst (v := nI 1) hx hb d_Site_serves_43 (by decide) ?_
        refine lv_goto (tgt := 48) hx hb d_Site_serves_44 (by decide) ?_
        subst hR
        exact W.zret (v := nI 1) hx hb hr (by decide) (fun t ht hW => ⟨⟨_, (), rfl, rfl, by rw [ht]; exact hP, va_K.moved hW.alike hK, hD⟩, hS.F ht⟩) hS.2.2 d_Site_serves_48
  · replace hR := (if_neg c5).symm.trans hR
    refine lv_iconst (v := nI 1) hx hb d_Site_serves_8 (by decide) ?_
    subst hR
    exact W.zret (v := nI 1) hx hb hr (by decide) (fun t ht hW => ⟨⟨_, (), rfl, rfl, by rw [ht]; exact hP, va_K.moved hW.alike hK, hD⟩, hS.F ht⟩) hS.2.2 d_Site_serves_9
def f_Site_unitPrice (VS0 : Nat) (NS2 : Nat → Nat) (LS1 : Nat → Int64) (LS2 : Nat → Int64) (LS3 : Nat → Int64) (LS5 : Nat → Int64) (VY0 : Nat) (LY0 : Nat → Int64) (LY1 : Nat → Int64) (LY2 : Nat → Int64) (IY0 : Nat → Int32) (x1 : Nat) (x2 : Nat) (x3 : Int32) : Int64 :=
  if VS0 ≤ x1 then (hh_bind (f_Site_metreOf VS0 LS1 LS2 x1) (fun y33 => hh_bind (f_Ways_unitPrice VY0 LY0 LY1 LY2 IY0 y33 (LS5 x2) (NS2 x2) x3) (fun y49 => ((LS3 (x1 - VS0)) + y49)))) else (hh_bind (f_Site_metreOf VS0 LS1 LS2 x1) (fun y33 => hh_bind (f_Ways_unitPrice VY0 LY0 LY1 LY2 IY0 y33 (LS5 x2) (NS2 x2) x3) (fun y49 => (0 + y49))))
set_option maxHeartbeats 4000000 in
set_option maxRecDepth 100000 in
theorem c_Site_unitPrice (l : Launch) (dC : Nat → ClassId) (dI : Nat → Nat → Nat) (cI cJ cZ : ClassId) (sz : Nat) (aS : Nat → Nat) (VS0 : Nat) (VS1 : Nat) (VS2 : Nat) (NS0 : Nat → Nat) (NS1 : Nat → Nat) (NS2 : Nat → Nat) (LS0 : Nat → Int64) (LS1 : Nat → Int64) (LS2 : Nat → Int64) (LS3 : Nat → Int64) (LS4 : Nat → Int64) (LS5 : Nat → Int64) (LS6 : Nat → Int64) (LS7 : Nat → Int64) (LS8 : Nat → Int64) (IS0 : Nat → Int32) (aY : Nat → Nat) (VY0 : Nat) (LY0 : Nat → Int64) (LY1 : Nat → Int64) (LY2 : Nat → Int64) (IY0 : Nat → Int32) (x1 : Nat) (x2 : Nat) (x3 : Int32) (hc8 : VS0 ≤ 8) (hp4 : VS1 ≤ 4) (hy6 : VY0 ≤ 6) (hfw : ∀ i, NS2 i < 12) (hx1 : x1 < (VS0 + VS1)) (hx2 : x2 < 8) : hh_Cl l y_Site_unitPrice u_Site_unitPrice ({ frames := 2, cells := 0, slots := 0, locals := 56 }) (dC, dI) vwCl [(cI, .int), (cJ, .long), (cZ, .boolean)] (w_S cI cJ cZ aS VS0 VS1 VS2 NS0 NS1 NS2 LS0 LS1 LS2 LS3 LS4 LS5 LS6 LS7 LS8 IS0 aY ++ w_Y cI cJ cZ aY VY0 LY0 LY1 LY2 IY0) sz [.ref (aS 0), .int (nI x1), .int (nI x2), .int x3] (f_Site_unitPrice VS0 NS2 LS1 LS2 LS3 LS5 VY0 LY0 LY1 LY2 IY0 x1 x2 x3) (w_S cI cJ cZ aS VS0 VS1 VS2 NS0 NS1 NS2 LS0 LS1 LS2 LS3 LS4 LS5 LS6 LS7 LS8 IS0 aY ++ w_Y cI cJ cZ aY VY0 LY0 LY1 LY2 IY0) 0 0 := by
  unfold hh_Cl
  refine Met.ofW (cc := b_Site_unitPrice) (maxL := 6) (ret := (some .long)) (by decide) rfl ?_
  intro p e s m args below meth c s₁ B hml hv
  obtain ⟨rfl, hsz, hP, hK, hD0⟩ := hv
  have hx := B.exec
  have hb := B.bytes
  have hr := B.returns
  have hts := atoms_spec (ws := u_Site_unitPrice) B.pre
  have hG : ∀ w ∈ wG, w.before ([.ref (aS 0), .int (nI x1), .int (nI x2), .int x3]).toArray s = true := fun w h => hts w (List.mem_cons_of_mem _ h)
  have hown : s.vm.findClass R_Site = some m.cls := findClass_of_methodNamed B.named
  have hlocks := B.notSynchronized
  subst hsz
  have hD := hD0.self (sz := s.heap.size)
  generalize hAe : va_A (w_S cI cJ cZ aS VS0 VS1 VS2 NS0 NS1 NS2 LS0 LS1 LS2 LS3 LS4 LS5 LS6 LS7 LS8 IS0 aY ++ w_Y cI cJ cZ aY VY0 LY0 LY1 LY2 IY0) s.heap.size = A at hD ⊢
  have hA : ∀ q : Nat, s.heap.size ≤ q → A q := fun q h => by rw [← hAe]; exact Or.inr h
  have hS : va_S A s.heap s.heap [] := va_S.rf
  have hl := lv_entry ([.ref (aS 0), .int (nI x1), .int (nI x2), .int x3]) (n := 6) (Nat.le_of_ble_eq_true rfl)
  rw [lg_entry_eq]
  generalize (lg_sl ([.ref (aS 0), .int (nI x1), .int (nI x2), .int x3]) ++ List.replicate (6 - (lg_sl ([.ref (aS 0), .int (nI x1), .int (nI x2), .int x3])).length) Slot.unset).toArray = ls at hl ⊢
  have hl : lv_has ls 6 [(0, .ref (aS 0)), (1, .int (nI x1)), (2, .int (nI x2)), (3, .int x3)] := hl
  generalize hR : f_Site_unitPrice VS0 NS2 LS1 LS2 LS3 LS5 VY0 LY0 LY1 LY2 IY0 x1 x2 x3 = r0
  obtain ⟨H, locs, hHe, hle⟩ : ∃ (H : Heap) (locs : List Loc), s.heap = H ∧ [] = locs := ⟨_, _, rfl, rfl⟩
  have hP : va_P (dC, dI) vwCl (w_S cI cJ cZ aS VS0 VS1 VS2 NS0 NS1 NS2 LS0 LS1 LS2 LS3 LS4 LS5 LS6 LS7 LS8 IS0 aY ++ w_Y cI cJ cZ aY VY0 LY0 LY1 LY2 IY0) H := by rw [← hHe]; exact hP
  have hS : va_S A s.heap H locs := by rw [← hHe, ← hle]; exact hS
  refine hw_start hHe hle ?_
  unfold f_Site_unitPrice at hR
  refine lv_iload_n hx hb d_Site_unitPrice_0 rfl (lv_at hl 1 rfl) ?_
  refine lv_aload_n hx hb d_Site_unitPrice_1 rfl (lv_at hl 0 rfl) ?_
  refine va_get (D := (dC, dI)) (ci := 2) (v := .int (nI VS0)) (C := R_Site) (T := T_Site) (N := 17) hx hb hG in_Site hown hK hP 0 rfl rfl 0 (by decide) (hG _ m_56) (fun _ h9 => h9) rfl d_Site_unitPrice_2 ?_
  refine hw_icmp_ge (tgt := 12) hx hb d_Site_unitPrice_5 (by decide) (by omega) (by omega) (fun c5 => ?_) (fun c5 => ?_)
  · replace hR := (if_pos c5).symm.trans hR
    refine lv_aload_n hx hb d_Site_unitPrice_12 rfl (lv_at hl 0 rfl) ?_
    refine va_get (D := (dC, dI)) (ci := 2) (v := .ref (aS 6)) (C := R_Site) (T := T_Site) (N := 17) hx hb hG in_Site hown hK hP 0 rfl rfl 9 (by decide) (hG _ m_71) (fun _ h9 => h9) rfl d_Site_unitPrice_13 ?_
    refine lv_iload_n hx hb d_Site_unitPrice_16 rfl (lv_at hl 1 rfl) ?_
    refine lv_aload_n hx hb d_Site_unitPrice_17 rfl (lv_at hl 0 rfl) ?_
    refine va_get (D := (dC, dI)) (ci := 2) (v := .int (nI VS0)) (C := R_Site) (T := T_Site) (N := 17) hx hb hG in_Site hown hK hP 0 rfl rfl 0 (by decide) (hG _ m_56) (fun _ h9 => h9) rfl d_Site_unitPrice_18 ?_
    refine hw_isub hx hb d_Site_unitPrice_21 (by omega) ?_
    refine hw_lald (f := LS3) hx hb hK hP 6 1 rfl rfl (by decide) (by omega) d_Site_unitPrice_22 ?_
    refine lv_lstore (lv' := [(4, .long (LS3 (x1 - VS0))), (0, .ref (aS 0)), (1, .int (nI x1)), (2, .int (nI x2)), (3, .int x3)]) hx hb d_Site_unitPrice_23 hl (by decide) rfl (fun ls hl => ?_)
    refine lv_lload hx hb d_Site_unitPrice_25 (lv_at hl 0 rfl) ?_
    refine lv_aload_n hx hb d_Site_unitPrice_27 rfl (lv_at hl 1 rfl) ?_
    refine va_get (D := (dC, dI)) (ci := 2) (v := .ref (aY 0)) (C := R_Site) (T := T_Site) (N := 17) hx hb hG in_Site hown hK hP 0 rfl rfl 3 (by decide) (hG _ m_64) (fun _ h9 => h9) rfl d_Site_unitPrice_28 ?_
    refine lv_aload_n hx hb d_Site_unitPrice_31 rfl (lv_at hl 1 rfl) ?_
    refine lv_iload_n hx hb d_Site_unitPrice_32 rfl (lv_at hl 2 rfl) ?_
    obtain ⟨y33, hy33, hR⟩ := hw_bind hR
    have hM := c_Site_metreOf l dC dI cI cJ cZ H.size aS VS0 VS1 VS2 NS0 NS1 NS2 LS0 LS1 LS2 LS3 LS4 LS5 LS6 LS7 LS8 IS0 aY VY0 LY0 LY1 LY2 IY0 x1 (by first | assumption | omega) (by first | assumption | omega) (by first | assumption | omega)
    rw [hy33] at hM
    refine hw_callVl (As := [.int (nI x1)]) (rest := [.ref (aY 0), .long (LS3 (x1 - VS0))]) (wr := ([] : va_W)) ⟨hx, hb, hml, hown, hG⟩ hM (hw_cwV 1 hG m_395 m_396 m_397 m_2 m_398 rfl rfl (by decide +kernel) ⟨Nat.le_of_ble_eq_true rfl, Nat.le_of_ble_eq_true rfl⟩) hK hP hD hS hA [0, 1, 2, 3, 4, 5, 6, 7, 8, 9, 10, 11, 12, 13, 14, 15, 16, 17, 18] [] rfl rfl (by decide) (by decide) (by decide) (hw_recv hK hP 0 rfl rfl) rfl hl.1 rfl (Nat.le_of_ble_eq_true rfl) d_Site_unitPrice_33 ⟨Nat.le_of_ble_eq_true rfl, Nat.le_of_ble_eq_true rfl⟩ (fun H locs hP hD hS => ?_)
    have hP : va_P (dC, dI) vwCl (w_S cI cJ cZ aS VS0 VS1 VS2 NS0 NS1 NS2 LS0 LS1 LS2 LS3 LS4 LS5 LS6 LS7 LS8 IS0 aY ++ w_Y cI cJ cZ aY VY0 LY0 LY1 LY2 IY0) H := hP
    have hD : va_D A (w_S cI cJ cZ aS VS0 VS1 VS2 NS0 NS1 NS2 LS0 LS1 LS2 LS3 LS4 LS5 LS6 LS7 LS8 IS0 aY ++ w_Y cI cJ cZ aY VY0 LY0 LY1 LY2 IY0) := hD
    refine lv_aload_n hx hb d_Site_unitPrice_36 rfl (lv_at hl 1 rfl) ?_
    refine va_get (D := (dC, dI)) (ci := 2) (v := .ref (aS 8)) (C := R_Site) (T := T_Site) (N := 17) hx hb hG in_Site hown hK hP 0 rfl rfl 11 (by decide) (hG _ m_76) (fun _ h9 => h9) rfl d_Site_unitPrice_37 ?_
    refine lv_iload_n hx hb d_Site_unitPrice_40 rfl (lv_at hl 3 rfl) ?_
    refine hw_lald (f := LS5) hx hb hK hP 8 1 rfl rfl (by decide) (by omega) d_Site_unitPrice_41 ?_
    refine lv_aload_n hx hb d_Site_unitPrice_42 rfl (lv_at hl 1 rfl) ?_
    refine va_get (D := (dC, dI)) (ci := 2) (v := .ref (aS 9)) (C := R_Site) (T := T_Site) (N := 17) hx hb hG in_Site hown hK hP 0 rfl rfl 12 (by decide) (hG _ m_78) (fun _ h9 => h9) rfl d_Site_unitPrice_43 ?_
    refine lv_iload_n hx hb d_Site_unitPrice_46 rfl (lv_at hl 3 rfl) ?_
    refine hw_nald (g := NS2) hx hb hK hP 9 0 rfl rfl (by decide) (by omega) d_Site_unitPrice_47 ?_
    have hb47 := hfw x2
    refine lv_iload_n hx hb d_Site_unitPrice_48 rfl (lv_at hl 4 rfl) ?_
    obtain ⟨y49, hy49, hR⟩ := hw_bind hR
    have hM := c_Ways_unitPrice l dC dI cI cJ cZ H.size aY VY0 LY0 LY1 LY2 IY0 y33 (LS5 x2) (NS2 x2) x3 (by first | assumption | omega)
    rw [hy49] at hM
    refine hw_callVl (As := [.long y33, .long (LS5 x2), .int (nI (NS2 x2)), .int x3]) (rest := [.long (LS3 (x1 - VS0))]) (wr := w_S cI cJ cZ aS VS0 VS1 VS2 NS0 NS1 NS2 LS0 LS1 LS2 LS3 LS4 LS5 LS6 LS7 LS8 IS0 aY) ⟨hx, hb, hml, hown, hG⟩ hM (hw_cwV 4 hG m_399 m_400 m_401 m_3 m_402 rfl rfl (by decide +kernel) ⟨Nat.le_of_ble_eq_true rfl, Nat.le_of_ble_eq_true rfl⟩) hK hP hD hS hA [14, 15, 16, 17, 18] [0, 1, 2, 3, 4, 5, 6, 7, 8, 9, 10, 11, 12, 13] rfl rfl (by decide) (by decide) (by decide) (hw_recv hK hP 14 rfl rfl) rfl hl.1 rfl (Nat.le_of_ble_eq_true rfl) d_Site_unitPrice_49 ⟨Nat.le_of_ble_eq_true rfl, Nat.le_of_ble_eq_true rfl⟩ (fun H locs hP hD hS => ?_)
    have hP : va_P (dC, dI) vwCl (w_S cI cJ cZ aS VS0 VS1 VS2 NS0 NS1 NS2 LS0 LS1 LS2 LS3 LS4 LS5 LS6 LS7 LS8 IS0 aY ++ w_Y cI cJ cZ aY VY0 LY0 LY1 LY2 IY0) H := hP
    have hD : va_D A (w_S cI cJ cZ aS VS0 VS1 VS2 NS0 NS1 NS2 LS0 LS1 LS2 LS3 LS4 LS5 LS6 LS7 LS8 IS0 aY ++ w_Y cI cJ cZ aY VY0 LY0 LY1 LY2 IY0) := hD
    refine lv_ladd hx hb d_Site_unitPrice_52 ?_
    subst hR
    exact W.lret (v := (LS3 (x1 - VS0)) + y49) hx hb hr (fun t ht hW => ⟨⟨_, (), rfl, rfl, by rw [ht]; exact hP, va_K.moved hW.alike hK, hD⟩, hS.F ht⟩) hS.2.2 d_Site_unitPrice_53
  · replace hR := (if_neg c5).symm.trans hR
    refine lv_lconst (v := 0) hx hb d_Site_unitPrice_8 (by decide) ?_
    refine lv_goto (tgt := 23) hx hb d_Site_unitPrice_9 (by decide) ?_
    refine lv_lstore (lv' := [(4, .long 0), (0, .ref (aS 0)), (1, .int (nI x1)), (2, .int (nI x2)), (3, .int x3)]) hx hb d_Site_unitPrice_23 hl (by decide) rfl (fun ls hl => ?_)
    refine lv_lload hx hb d_Site_unitPrice_25 (lv_at hl 0 rfl) ?_
    refine lv_aload_n hx hb d_Site_unitPrice_27 rfl (lv_at hl 1 rfl) ?_
    refine va_get (D := (dC, dI)) (ci := 2) (v := .ref (aY 0)) (C := R_Site) (T := T_Site) (N := 17) hx hb hG in_Site hown hK hP 0 rfl rfl 3 (by decide) (hG _ m_64) (fun _ h9 => h9) rfl d_Site_unitPrice_28 ?_
    refine lv_aload_n hx hb d_Site_unitPrice_31 rfl (lv_at hl 1 rfl) ?_
    refine lv_iload_n hx hb d_Site_unitPrice_32 rfl (lv_at hl 2 rfl) ?_
    obtain ⟨y33, hy33, hR⟩ := hw_bind hR
    have hM := c_Site_metreOf l dC dI cI cJ cZ H.size aS VS0 VS1 VS2 NS0 NS1 NS2 LS0 LS1 LS2 LS3 LS4 LS5 LS6 LS7 LS8 IS0 aY VY0 LY0 LY1 LY2 IY0 x1 (by first | assumption | omega) (by first | assumption | omega) (by first | assumption | omega)
    rw [hy33] at hM
    refine hw_callVl (As := [.int (nI x1)]) (rest := [.ref (aY 0), .long 0]) (wr := ([] : va_W)) ⟨hx, hb, hml, hown, hG⟩ hM (hw_cwV 1 hG m_395 m_396 m_397 m_2 m_398 rfl rfl (by decide +kernel) ⟨Nat.le_of_ble_eq_true rfl, Nat.le_of_ble_eq_true rfl⟩) hK hP hD hS hA [0, 1, 2, 3, 4, 5, 6, 7, 8, 9, 10, 11, 12, 13, 14, 15, 16, 17, 18] [] rfl rfl (by decide) (by decide) (by decide) (hw_recv hK hP 0 rfl rfl) rfl hl.1 rfl (Nat.le_of_ble_eq_true rfl) d_Site_unitPrice_33 ⟨Nat.le_of_ble_eq_true rfl, Nat.le_of_ble_eq_true rfl⟩ (fun H locs hP hD hS => ?_)
    have hP : va_P (dC, dI) vwCl (w_S cI cJ cZ aS VS0 VS1 VS2 NS0 NS1 NS2 LS0 LS1 LS2 LS3 LS4 LS5 LS6 LS7 LS8 IS0 aY ++ w_Y cI cJ cZ aY VY0 LY0 LY1 LY2 IY0) H := hP
    have hD : va_D A (w_S cI cJ cZ aS VS0 VS1 VS2 NS0 NS1 NS2 LS0 LS1 LS2 LS3 LS4 LS5 LS6 LS7 LS8 IS0 aY ++ w_Y cI cJ cZ aY VY0 LY0 LY1 LY2 IY0) := hD
    refine lv_aload_n hx hb d_Site_unitPrice_36 rfl (lv_at hl 1 rfl) ?_
    refine va_get (D := (dC, dI)) (ci := 2) (v := .ref (aS 8)) (C := R_Site) (T := T_Site) (N := 17) hx hb hG in_Site hown hK hP 0 rfl rfl 11 (by decide) (hG _ m_76) (fun _ h9 => h9) rfl d_Site_unitPrice_37 ?_
    refine lv_iload_n hx hb d_Site_unitPrice_40 rfl (lv_at hl 3 rfl) ?_
    refine hw_lald (f := LS5) hx hb hK hP 8 1 rfl rfl (by decide) (by omega) d_Site_unitPrice_41 ?_
    refine lv_aload_n hx hb d_Site_unitPrice_42 rfl (lv_at hl 1 rfl) ?_
    refine va_get (D := (dC, dI)) (ci := 2) (v := .ref (aS 9)) (C := R_Site) (T := T_Site) (N := 17) hx hb hG in_Site hown hK hP 0 rfl rfl 12 (by decide) (hG _ m_78) (fun _ h9 => h9) rfl d_Site_unitPrice_43 ?_
    refine lv_iload_n hx hb d_Site_unitPrice_46 rfl (lv_at hl 3 rfl) ?_
    refine hw_nald (g := NS2) hx hb hK hP 9 0 rfl rfl (by decide) (by omega) d_Site_unitPrice_47 ?_
    have hb47 := hfw x2
    refine lv_iload_n hx hb d_Site_unitPrice_48 rfl (lv_at hl 4 rfl) ?_
    obtain ⟨y49, hy49, hR⟩ := hw_bind hR
    have hM := c_Ways_unitPrice l dC dI cI cJ cZ H.size aY VY0 LY0 LY1 LY2 IY0 y33 (LS5 x2) (NS2 x2) x3 (by first | assumption | omega)
    rw [hy49] at hM
    refine hw_callVl (As := [.long y33, .long (LS5 x2), .int (nI (NS2 x2)), .int x3]) (rest := [.long 0]) (wr := w_S cI cJ cZ aS VS0 VS1 VS2 NS0 NS1 NS2 LS0 LS1 LS2 LS3 LS4 LS5 LS6 LS7 LS8 IS0 aY) ⟨hx, hb, hml, hown, hG⟩ hM (hw_cwV 4 hG m_399 m_400 m_401 m_3 m_402 rfl rfl (by decide +kernel) ⟨Nat.le_of_ble_eq_true rfl, Nat.le_of_ble_eq_true rfl⟩) hK hP hD hS hA [14, 15, 16, 17, 18] [0, 1, 2, 3, 4, 5, 6, 7, 8, 9, 10, 11, 12, 13] rfl rfl (by decide) (by decide) (by decide) (hw_recv hK hP 14 rfl rfl) rfl hl.1 rfl (Nat.le_of_ble_eq_true rfl) d_Site_unitPrice_49 ⟨Nat.le_of_ble_eq_true rfl, Nat.le_of_ble_eq_true rfl⟩ (fun H locs hP hD hS => ?_)
    have hP : va_P (dC, dI) vwCl (w_S cI cJ cZ aS VS0 VS1 VS2 NS0 NS1 NS2 LS0 LS1 LS2 LS3 LS4 LS5 LS6 LS7 LS8 IS0 aY ++ w_Y cI cJ cZ aY VY0 LY0 LY1 LY2 IY0) H := hP
    have hD : va_D A (w_S cI cJ cZ aS VS0 VS1 VS2 NS0 NS1 NS2 LS0 LS1 LS2 LS3 LS4 LS5 LS6 LS7 LS8 IS0 aY ++ w_Y cI cJ cZ aY VY0 LY0 LY1 LY2 IY0) := hD
    refine lv_ladd hx hb d_Site_unitPrice_52 ?_
    subst hR
    exact W.lret (v := 0 + y49) hx hb hr (fun t ht hW => ⟨⟨_, (), rfl, rfl, by rw [ht]; exact hP, va_K.moved hW.alike hK, hD⟩, hS.F ht⟩) hS.2.2 d_Site_unitPrice_53
def f_Site_weekSpare_h10B (VS2 : Nat) (NS2 : Nat → Nat) (x1 : Nat) (LS4 : Nat → Int64) (k_10 : (Int64) → (Nat) → Int64) (rec_10 : (Int64) → (Nat) → Int64) (x2_10 : Int64) (x4_10 : Nat) : Int64 :=
  if VS2 ≤ x4_10 then (k_10 x2_10 x4_10) else (if (NS2 x4_10) = x1 then (rec_10 (x2_10 - (LS4 x4_10)) (x4_10 + 1)) else (rec_10 x2_10 (x4_10 + 1)))
def f_Site_weekSpare_h10 (VS2 : Nat) (NS2 : Nat → Nat) (x1 : Nat) (LS4 : Nat → Int64) (k_10 : (Int64) → (Nat) → Int64) : Nat → (Int64) → (Nat) → Int64
  | 0, x2_10, x4_10 => k_10 x2_10 x4_10
  | n + 1, x2_10, x4_10 => f_Site_weekSpare_h10B VS2 NS2 x1 LS4 k_10 (fun x2_10 x4_10 => f_Site_weekSpare_h10 VS2 NS2 x1 LS4 k_10 n x2_10 x4_10) x2_10 x4_10
def f_Site_weekSpare_x10  (x2_10 : Int64) (x4_10 : Nat) : Int64 :=
  (x2_10)
def f_Site_weekSpare (VS2 : Nat) (NS2 : Nat → Nat) (LS4 : Nat → Int64) (LS8 : Nat → Int64) (x1 : Nat) : Int64 :=
  f_Site_weekSpare_h10 VS2 NS2 x1 LS4 f_Site_weekSpare_x10 9 (LS8 x1) 0
set_option maxHeartbeats 4000000 in
set_option maxRecDepth 100000 in
theorem c_Site_weekSpare (l : Launch) (dC : Nat → ClassId) (dI : Nat → Nat → Nat) (cI cJ cZ : ClassId) (sz : Nat) (aS : Nat → Nat) (VS0 : Nat) (VS1 : Nat) (VS2 : Nat) (NS0 : Nat → Nat) (NS1 : Nat → Nat) (NS2 : Nat → Nat) (LS0 : Nat → Int64) (LS1 : Nat → Int64) (LS2 : Nat → Int64) (LS3 : Nat → Int64) (LS4 : Nat → Int64) (LS5 : Nat → Int64) (LS6 : Nat → Int64) (LS7 : Nat → Int64) (LS8 : Nat → Int64) (IS0 : Nat → Int32) (aY : Nat → Nat) (VY0 : Nat) (LY0 : Nat → Int64) (LY1 : Nat → Int64) (LY2 : Nat → Int64) (IY0 : Nat → Int32) (x1 : Nat) (hf8 : VS2 ≤ 8) (hfw : ∀ i, NS2 i < 12) (hx1 : x1 < 12) : hh_Cl l y_Site_weekSpare u_Site_weekSpare ({ frames := 0, cells := 0, slots := 0, locals := 0 }) (dC, dI) vwCl [(cI, .int), (cJ, .long), (cZ, .boolean)] (w_S cI cJ cZ aS VS0 VS1 VS2 NS0 NS1 NS2 LS0 LS1 LS2 LS3 LS4 LS5 LS6 LS7 LS8 IS0 aY ++ w_Y cI cJ cZ aY VY0 LY0 LY1 LY2 IY0) sz [.ref (aS 0), .int (nI x1)] (f_Site_weekSpare VS2 NS2 LS4 LS8 x1) (w_S cI cJ cZ aS VS0 VS1 VS2 NS0 NS1 NS2 LS0 LS1 LS2 LS3 LS4 LS5 LS6 LS7 LS8 IS0 aY ++ w_Y cI cJ cZ aY VY0 LY0 LY1 LY2 IY0) 0 0 := by
  unfold hh_Cl
  refine Met.ofW (cc := b_Site_weekSpare) (maxL := 5) (ret := (some .long)) (by decide) rfl ?_
  intro p e s m args below meth c s₁ B hml hv
  obtain ⟨rfl, hsz, hP, hK, hD0⟩ := hv
  have hx := B.exec
  have hb := B.bytes
  have hr := B.returns
  have hts := atoms_spec (ws := u_Site_weekSpare) B.pre
  have hG : ∀ w ∈ wG, w.before ([.ref (aS 0), .int (nI x1)]).toArray s = true := fun w h => hts w (List.mem_cons_of_mem _ h)
  have hown : s.vm.findClass R_Site = some m.cls := findClass_of_methodNamed B.named
  have hlocks := B.notSynchronized
  subst hsz
  have hD := hD0.self (sz := s.heap.size)
  generalize hAe : va_A (w_S cI cJ cZ aS VS0 VS1 VS2 NS0 NS1 NS2 LS0 LS1 LS2 LS3 LS4 LS5 LS6 LS7 LS8 IS0 aY ++ w_Y cI cJ cZ aY VY0 LY0 LY1 LY2 IY0) s.heap.size = A at hD ⊢
  have hA : ∀ q : Nat, s.heap.size ≤ q → A q := fun q h => by rw [← hAe]; exact Or.inr h
  have hS : va_S A s.heap s.heap [] := va_S.rf
  have hl := lv_entry ([.ref (aS 0), .int (nI x1)]) (n := 5) (Nat.le_of_ble_eq_true rfl)
  rw [lg_entry_eq]
  generalize (lg_sl ([.ref (aS 0), .int (nI x1)]) ++ List.replicate (5 - (lg_sl ([.ref (aS 0), .int (nI x1)])).length) Slot.unset).toArray = ls at hl ⊢
  have hl : lv_has ls 5 [(0, .ref (aS 0)), (1, .int (nI x1))] := hl
  generalize hR : f_Site_weekSpare VS2 NS2 LS4 LS8 x1 = r0
  obtain ⟨H, locs, hHe, hle⟩ : ∃ (H : Heap) (locs : List Loc), s.heap = H ∧ [] = locs := ⟨_, _, rfl, rfl⟩
  have hP : va_P (dC, dI) vwCl (w_S cI cJ cZ aS VS0 VS1 VS2 NS0 NS1 NS2 LS0 LS1 LS2 LS3 LS4 LS5 LS6 LS7 LS8 IS0 aY ++ w_Y cI cJ cZ aY VY0 LY0 LY1 LY2 IY0) H := by rw [← hHe]; exact hP
  have hS : va_S A s.heap H locs := by rw [← hHe, ← hle]; exact hS
  refine hw_start hHe hle ?_
  unfold f_Site_weekSpare at hR
  refine lv_aload_n hx hb d_Site_weekSpare_0 rfl (lv_at hl 0 rfl) ?_
  refine va_get (D := (dC, dI)) (ci := 2) (v := .ref (aS 13)) (C := R_Site) (T := T_Site) (N := 17) hx hb hG in_Site hown hK hP 0 rfl rfl 16 (by decide) (hG _ m_87) (fun _ h9 => h9) rfl d_Site_weekSpare_1 ?_
  refine lv_iload_n hx hb d_Site_weekSpare_4 rfl (lv_at hl 1 rfl) ?_
  refine hw_lald (f := LS8) hx hb hK hP 13 1 rfl rfl (by decide) (by omega) d_Site_weekSpare_5 ?_
  refine lv_lstore_n (lv' := [(2, .long (LS8 x1)), (0, .ref (aS 0)), (1, .int (nI x1))]) hx hb d_Site_weekSpare_6 rfl hl (by decide) rfl (fun ls hl => ?_)
  refine lv_iconst (v := nI 0) hx hb d_Site_weekSpare_7 (by decide) ?_
  refine lv_istore (lv' := [(4, .int (nI 0)), (2, .long (LS8 x1)), (0, .ref (aS 0)), (1, .int (nI x1))]) hx hb d_Site_weekSpare_8 hl (by decide) rfl (fun ls hl => ?_)
  obtain ⟨k_10, hk_10, hR⟩ : ∃ k, f_Site_weekSpare_x10 = k ∧ f_Site_weekSpare_h10 VS2 NS2 x1 LS4 k 9 (LS8 x1) 0 = r0 := ⟨_, rfl, hR⟩
  have X_10 : ∀ (x2_10 : Int64) (x4_10 : Nat) (hi : x4_10 ≤ (VS2)) (H : Heap) (locs : List Loc) (hP : va_P (dC, dI) vwCl (w_S cI cJ cZ aS VS0 VS1 VS2 NS0 NS1 NS2 LS0 LS1 LS2 LS3 LS4 LS5 LS6 LS7 LS8 IS0 aY ++ w_Y cI cJ cZ aY VY0 LY0 LY1 LY2 IY0) H) (hD : va_D A (w_S cI cJ cZ aS VS0 VS1 VS2 NS0 NS1 NS2 LS0 LS1 LS2 LS3 LS4 LS5 LS6 LS7 LS8 IS0 aY ++ w_Y cI cJ cZ aY VY0 LY0 LY1 LY2 IY0)) (hS : va_S A s.heap H locs) (ls : Array Slot) (hl : lv_has ls 5 [(0, .ref (aS 0)), (1, .int (nI x1)), (2, .long x2_10), (4, .int (nI x4_10))]) (hR : k_10 x2_10 x4_10 = r0), W p l e (headSpec u_Site_weekSpare ({ frames := 0, cells := 0, slots := 0, locals := 0 })).room s m ([.ref (aS 0), .int (nI x1)]).toArray below meth c H locs 0 0 (hh_Zl below (dC, dI) vwCl [(cI, .int), (cJ, .long), (cZ, .boolean)] A r0 (w_S cI cJ cZ aS VS0 VS1 VS2 NS0 NS1 NS2 LS0 LS1 LS2 LS3 LS4 LS5 LS6 LS7 LS8 IS0 aY ++ w_Y cI cJ cZ aY VY0 LY0 LY1 LY2 IY0) ([.ref (aS 0), .int (nI x1)]).toArray s) (F0 m 46 ls []) := by
    intro x2_10 x4_10 hi H locs hP hD hS ls hl hR
    rw [← hk_10] at hR
    unfold f_Site_weekSpare_x10 at hR
    refine lv_lload_n hx hb d_Site_weekSpare_46 rfl (lv_at hl 2 rfl) ?_
    subst hR
    exact W.lret (v := x2_10) hx hb hr (fun t ht hW => ⟨⟨_, (), rfl, rfl, by rw [ht]; exact hP, va_K.moved hW.alike hK, hD⟩, hS.F ht⟩) hS.2.2 d_Site_weekSpare_47
  have L_10 : ∀ (n : Nat) (x2_10 : Int64) (x4_10 : Nat) (hi : x4_10 ≤ (VS2)) (hfu : (VS2) - x4_10 < n) (H : Heap) (locs : List Loc) (hP : va_P (dC, dI) vwCl (w_S cI cJ cZ aS VS0 VS1 VS2 NS0 NS1 NS2 LS0 LS1 LS2 LS3 LS4 LS5 LS6 LS7 LS8 IS0 aY ++ w_Y cI cJ cZ aY VY0 LY0 LY1 LY2 IY0) H) (hD : va_D A (w_S cI cJ cZ aS VS0 VS1 VS2 NS0 NS1 NS2 LS0 LS1 LS2 LS3 LS4 LS5 LS6 LS7 LS8 IS0 aY ++ w_Y cI cJ cZ aY VY0 LY0 LY1 LY2 IY0)) (hS : va_S A s.heap H locs) (ls : Array Slot) (hl : lv_has ls 5 [(0, .ref (aS 0)), (1, .int (nI x1)), (2, .long x2_10), (4, .int (nI x4_10))]) (hR : f_Site_weekSpare_h10 VS2 NS2 x1 LS4 k_10 n x2_10 x4_10 = r0), W p l e (headSpec u_Site_weekSpare ({ frames := 0, cells := 0, slots := 0, locals := 0 })).room s m ([.ref (aS 0), .int (nI x1)]).toArray below meth c H locs 0 0 (hh_Zl below (dC, dI) vwCl [(cI, .int), (cJ, .long), (cZ, .boolean)] A r0 (w_S cI cJ cZ aS VS0 VS1 VS2 NS0 NS1 NS2 LS0 LS1 LS2 LS3 LS4 LS5 LS6 LS7 LS8 IS0 aY ++ w_Y cI cJ cZ aY VY0 LY0 LY1 LY2 IY0) ([.ref (aS 0), .int (nI x1)]).toArray s) (F0 m 10 ls []) := by
    intro n
    induction n with
    | zero =>
      intro x2_10 x4_10 hi hfu H locs hP hD hS ls hl hR
      exact absurd hfu (Nat.not_lt_zero _)
    | succ n ih_10 =>
      intro x2_10 x4_10 hi hfu H locs hP hD hS ls hl hR
      rw [f_Site_weekSpare_h10] at hR
      obtain ⟨rec_10, hrec_10, hR⟩ : ∃ r, r = _ ∧ f_Site_weekSpare_h10B VS2 NS2 x1 LS4 k_10 r x2_10 x4_10 = r0 := ⟨_, rfl, hR⟩
      unfold f_Site_weekSpare_h10B at hR
      refine lv_iload hx hb d_Site_weekSpare_10 (lv_at hl 3 rfl) ?_
      refine lv_aload_n hx hb d_Site_weekSpare_12 rfl (lv_at hl 0 rfl) ?_
      refine va_get (D := (dC, dI)) (ci := 2) (v := .int (nI VS2)) (C := R_Site) (T := T_Site) (N := 17) hx hb hG in_Site hown hK hP 0 rfl rfl 2 (by decide) (hG _ m_61) (fun _ h9 => h9) rfl d_Site_weekSpare_13 ?_
      refine hw_icmp_ge (tgt := 46) hx hb d_Site_weekSpare_16 (by decide) (by omega) (by omega) (fun c16 => ?_) (fun c16 => ?_)
      · replace hR := (if_pos c16).symm.trans hR
        exact X_10 x2_10 x4_10 (by first | assumption | omega | exact hw_upb (by assumption) (by omega)) H locs hP hD hS ls (lv_sub hl [0, 1, 2, 3] rfl) hR
      · replace hR := (if_neg c16).symm.trans hR
        refine lv_aload_n hx hb d_Site_weekSpare_19 rfl (lv_at hl 0 rfl) ?_
        refine va_get (D := (dC, dI)) (ci := 2) (v := .ref (aS 9)) (C := R_Site) (T := T_Site) (N := 17) hx hb hG in_Site hown hK hP 0 rfl rfl 12 (by decide) (hG _ m_78) (fun _ h9 => h9) rfl d_Site_weekSpare_20 ?_
        refine lv_iload hx hb d_Site_weekSpare_23 (lv_at hl 3 rfl) ?_
        refine hw_nald (g := NS2) hx hb hK hP 9 0 rfl rfl (by decide) (by omega) d_Site_weekSpare_25 ?_
        have hb25 := hfw x4_10
        refine lv_iload_n hx hb d_Site_weekSpare_26 rfl (lv_at hl 1 rfl) ?_
        refine hw_icmp_ne (tgt := 40) hx hb d_Site_weekSpare_27 (by decide) (by omega) (by omega) (fun c27 => ?_) (fun c27 => ?_)
        · replace hR := (if_neg c27).symm.trans hR
          refine lv_iinc (v := nI (x4_10 + 1)) (lv' := [(4, .int (nI (x4_10 + 1))), (0, .ref (aS 0)), (1, .int (nI x1)), (2, .long x2_10)]) hx hb d_Site_weekSpare_40 hl (k := 3) rfl (hw_inc _ 1) (by decide) rfl (fun ls hl => ?_)
          refine lv_goto (tgt := 10) hx hb d_Site_weekSpare_43 (by decide) ?_
          rw [hrec_10] at hR
          exact ih_10 x2_10 (x4_10 + 1) (by first | assumption | omega | exact hw_upb (by assumption) (by omega)) (by omega) H locs hP hD hS ls (lv_sub hl [1, 2, 3, 0] rfl) hR
        · replace hR := (if_pos c27).symm.trans hR
          refine lv_lload_n hx hb d_Site_weekSpare_30 rfl (lv_at hl 2 rfl) ?_
          refine lv_aload_n hx hb d_Site_weekSpare_31 rfl (lv_at hl 0 rfl) ?_
          refine va_get (D := (dC, dI)) (ci := 2) (v := .ref (aS 7)) (C := R_Site) (T := T_Site) (N := 17) hx hb hG in_Site hown hK hP 0 rfl rfl 10 (by decide) (hG _ m_72) (fun _ h9 => h9) rfl d_Site_weekSpare_32 ?_
          refine lv_iload hx hb d_Site_weekSpare_35 (lv_at hl 3 rfl) ?_
          refine hw_lald (f := LS4) hx hb hK hP 7 1 rfl rfl (by decide) (by omega) d_Site_weekSpare_37 ?_
          refine lv_lsub hx hb d_Site_weekSpare_38 ?_
          refine lv_lstore_n (lv' := [(2, .long (x2_10 - (LS4 x4_10))), (0, .ref (aS 0)), (1, .int (nI x1)), (4, .int (nI x4_10))]) hx hb d_Site_weekSpare_39 rfl hl (by decide) rfl (fun ls hl => ?_)
          refine lv_iinc (v := nI (x4_10 + 1)) (lv' := [(4, .int (nI (x4_10 + 1))), (2, .long (x2_10 - (LS4 x4_10))), (0, .ref (aS 0)), (1, .int (nI x1))]) hx hb d_Site_weekSpare_40 hl (k := 3) rfl (hw_inc _ 1) (by decide) rfl (fun ls hl => ?_)
          refine lv_goto (tgt := 10) hx hb d_Site_weekSpare_43 (by decide) ?_
          rw [hrec_10] at hR
          exact ih_10 (x2_10 - (LS4 x4_10)) (x4_10 + 1) (by first | assumption | omega | exact hw_upb (by assumption) (by omega)) (by omega) H locs hP hD hS ls (lv_sub hl [2, 3, 1, 0] rfl) hR
  exact L_10 9 (LS8 x1) 0 (by first | assumption | omega | exact hw_upb (by assumption) (by omega)) (by omega) H locs hP hD hS ls (lv_sub hl [2, 3, 1, 0] rfl) hR
def f_Site_weeksSuffice_h2B (VS2 : Nat) (NS2 : Nat → Nat) (LS4 : Nat → Int64) (LS8 : Nat → Int64) (k_2 : (Nat) → Int32) (rec_2 : (Nat) → Int32) (x1_2 : Nat) : Int32 :=
  if 12 ≤ x1_2 then (k_2 x1_2) else (hh_bind (f_Site_weekSpare VS2 NS2 LS4 LS8 x1_2) (fun y10 => if 0 ≤ y10 then (rec_2 (x1_2 + 1)) else (nI 0)))
def f_Site_weeksSuffice_h2 (VS2 : Nat) (NS2 : Nat → Nat) (LS4 : Nat → Int64) (LS8 : Nat → Int64) (k_2 : (Nat) → Int32) : Nat → (Nat) → Int32
  | 0, x1_2 => k_2 x1_2
  | n + 1, x1_2 => f_Site_weeksSuffice_h2B VS2 NS2 LS4 LS8 k_2 (fun x1_2 => f_Site_weeksSuffice_h2 VS2 NS2 LS4 LS8 k_2 n x1_2) x1_2
def f_Site_weeksSuffice_x2  (x1_2 : Nat) : Int32 :=
  (nI 1)
def f_Site_weeksSuffice (VS2 : Nat) (NS2 : Nat → Nat) (LS4 : Nat → Int64) (LS8 : Nat → Int64) : Int32 :=
  f_Site_weeksSuffice_h2 VS2 NS2 LS4 LS8 f_Site_weeksSuffice_x2 13 0
set_option maxHeartbeats 4000000 in
set_option maxRecDepth 100000 in
theorem c_Site_weeksSuffice (l : Launch) (dC : Nat → ClassId) (dI : Nat → Nat → Nat) (cI cJ cZ : ClassId) (sz : Nat) (aS : Nat → Nat) (VS0 : Nat) (VS1 : Nat) (VS2 : Nat) (NS0 : Nat → Nat) (NS1 : Nat → Nat) (NS2 : Nat → Nat) (LS0 : Nat → Int64) (LS1 : Nat → Int64) (LS2 : Nat → Int64) (LS3 : Nat → Int64) (LS4 : Nat → Int64) (LS5 : Nat → Int64) (LS6 : Nat → Int64) (LS7 : Nat → Int64) (LS8 : Nat → Int64) (IS0 : Nat → Int32) (aY : Nat → Nat) (VY0 : Nat) (LY0 : Nat → Int64) (LY1 : Nat → Int64) (LY2 : Nat → Int64) (IY0 : Nat → Int32) (hf8 : VS2 ≤ 8) (hfw : ∀ i, NS2 i < 12) : hh_Ci l y_Site_weeksSuffice u_Site_weeksSuffice ({ frames := 1, cells := 0, slots := 0, locals := 24 }) (dC, dI) vwCl [(cI, .int), (cJ, .long), (cZ, .boolean)] (w_S cI cJ cZ aS VS0 VS1 VS2 NS0 NS1 NS2 LS0 LS1 LS2 LS3 LS4 LS5 LS6 LS7 LS8 IS0 aY ++ w_Y cI cJ cZ aY VY0 LY0 LY1 LY2 IY0) sz [.ref (aS 0)] (f_Site_weeksSuffice VS2 NS2 LS4 LS8) (w_S cI cJ cZ aS VS0 VS1 VS2 NS0 NS1 NS2 LS0 LS1 LS2 LS3 LS4 LS5 LS6 LS7 LS8 IS0 aY ++ w_Y cI cJ cZ aY VY0 LY0 LY1 LY2 IY0) 0 0 := by
  unfold hh_Ci
  refine Met.ofW (cc := b_Site_weeksSuffice) (maxL := 2) (ret := (some .boolean)) (by decide) rfl ?_
  intro p e s m args below meth c s₁ B hml hv
  obtain ⟨rfl, hsz, hP, hK, hD0⟩ := hv
  have hx := B.exec
  have hb := B.bytes
  have hr := B.returns
  have hts := atoms_spec (ws := u_Site_weeksSuffice) B.pre
  have hG : ∀ w ∈ wG, w.before ([.ref (aS 0)]).toArray s = true := fun w h => hts w (List.mem_cons_of_mem _ h)
  have hown : s.vm.findClass R_Site = some m.cls := findClass_of_methodNamed B.named
  have hlocks := B.notSynchronized
  subst hsz
  have hD := hD0.self (sz := s.heap.size)
  generalize hAe : va_A (w_S cI cJ cZ aS VS0 VS1 VS2 NS0 NS1 NS2 LS0 LS1 LS2 LS3 LS4 LS5 LS6 LS7 LS8 IS0 aY ++ w_Y cI cJ cZ aY VY0 LY0 LY1 LY2 IY0) s.heap.size = A at hD ⊢
  have hA : ∀ q : Nat, s.heap.size ≤ q → A q := fun q h => by rw [← hAe]; exact Or.inr h
  have hS : va_S A s.heap s.heap [] := va_S.rf
  have hl := lv_entry ([.ref (aS 0)]) (n := 2) (Nat.le_of_ble_eq_true rfl)
  rw [lg_entry_eq]
  generalize (lg_sl ([.ref (aS 0)]) ++ List.replicate (2 - (lg_sl ([.ref (aS 0)])).length) Slot.unset).toArray = ls at hl ⊢
  have hl : lv_has ls 2 [(0, .ref (aS 0))] := hl
  generalize hR : f_Site_weeksSuffice VS2 NS2 LS4 LS8 = r0
  obtain ⟨H, locs, hHe, hle⟩ : ∃ (H : Heap) (locs : List Loc), s.heap = H ∧ [] = locs := ⟨_, _, rfl, rfl⟩
  have hP : va_P (dC, dI) vwCl (w_S cI cJ cZ aS VS0 VS1 VS2 NS0 NS1 NS2 LS0 LS1 LS2 LS3 LS4 LS5 LS6 LS7 LS8 IS0 aY ++ w_Y cI cJ cZ aY VY0 LY0 LY1 LY2 IY0) H := by rw [← hHe]; exact hP
  have hS : va_S A s.heap H locs := by rw [← hHe, ← hle]; exact hS
  refine hw_start hHe hle ?_
  unfold f_Site_weeksSuffice at hR
  refine lv_iconst (v := nI 0) hx hb d_Site_weeksSuffice_0 (by decide) ?_
  refine lv_istore_n (lv' := [(1, .int (nI 0)), (0, .ref (aS 0))]) hx hb d_Site_weeksSuffice_1 rfl hl (by decide) rfl (fun ls hl => ?_)
  obtain ⟨k_2, hk_2, hR⟩ : ∃ k, f_Site_weeksSuffice_x2 = k ∧ f_Site_weeksSuffice_h2 VS2 NS2 LS4 LS8 k 13 0 = r0 := ⟨_, rfl, hR⟩
  have X_2 : ∀ (x1_2 : Nat) (hi : x1_2 ≤ 12) (H : Heap) (locs : List Loc) (hP : va_P (dC, dI) vwCl (w_S cI cJ cZ aS VS0 VS1 VS2 NS0 NS1 NS2 LS0 LS1 LS2 LS3 LS4 LS5 LS6 LS7 LS8 IS0 aY ++ w_Y cI cJ cZ aY VY0 LY0 LY1 LY2 IY0) H) (hD : va_D A (w_S cI cJ cZ aS VS0 VS1 VS2 NS0 NS1 NS2 LS0 LS1 LS2 LS3 LS4 LS5 LS6 LS7 LS8 IS0 aY ++ w_Y cI cJ cZ aY VY0 LY0 LY1 LY2 IY0)) (hS : va_S A s.heap H locs) (ls : Array Slot) (hl : lv_has ls 2 [(0, .ref (aS 0)), (1, .int (nI x1_2))]) (hR : k_2 x1_2 = r0), W p l e (headSpec u_Site_weeksSuffice ({ frames := 1, cells := 0, slots := 0, locals := 24 })).room s m ([.ref (aS 0)]).toArray below meth c H locs 0 0 (hh_Zi below (dC, dI) vwCl [(cI, .int), (cJ, .long), (cZ, .boolean)] A r0 (w_S cI cJ cZ aS VS0 VS1 VS2 NS0 NS1 NS2 LS0 LS1 LS2 LS3 LS4 LS5 LS6 LS7 LS8 IS0 aY ++ w_Y cI cJ cZ aY VY0 LY0 LY1 LY2 IY0) ([.ref (aS 0)]).toArray s) (F0 m 26 ls []) := by
    intro x1_2 hi H locs hP hD hS ls hl hR
    rw [← hk_2] at hR
    unfold f_Site_weeksSuffice_x2 at hR
    refine lv_iconst (v := nI 1) hx hb d_Site_weeksSuffice_26 (by decide) ?_
    subst hR
    exact W.zret (v := nI 1) hx hb hr (by decide) (fun t ht hW => ⟨⟨_, (), rfl, rfl, by rw [ht]; exact hP, va_K.moved hW.alike hK, hD⟩, hS.F ht⟩) hS.2.2 d_Site_weeksSuffice_27
  have L_2 : ∀ (n : Nat) (x1_2 : Nat) (hi : x1_2 ≤ 12) (hfu : 12 - x1_2 < n) (H : Heap) (locs : List Loc) (hP : va_P (dC, dI) vwCl (w_S cI cJ cZ aS VS0 VS1 VS2 NS0 NS1 NS2 LS0 LS1 LS2 LS3 LS4 LS5 LS6 LS7 LS8 IS0 aY ++ w_Y cI cJ cZ aY VY0 LY0 LY1 LY2 IY0) H) (hD : va_D A (w_S cI cJ cZ aS VS0 VS1 VS2 NS0 NS1 NS2 LS0 LS1 LS2 LS3 LS4 LS5 LS6 LS7 LS8 IS0 aY ++ w_Y cI cJ cZ aY VY0 LY0 LY1 LY2 IY0)) (hS : va_S A s.heap H locs) (ls : Array Slot) (hl : lv_has ls 2 [(0, .ref (aS 0)), (1, .int (nI x1_2))]) (hR : f_Site_weeksSuffice_h2 VS2 NS2 LS4 LS8 k_2 n x1_2 = r0), W p l e (headSpec u_Site_weeksSuffice ({ frames := 1, cells := 0, slots := 0, locals := 24 })).room s m ([.ref (aS 0)]).toArray below meth c H locs 0 0 (hh_Zi below (dC, dI) vwCl [(cI, .int), (cJ, .long), (cZ, .boolean)] A r0 (w_S cI cJ cZ aS VS0 VS1 VS2 NS0 NS1 NS2 LS0 LS1 LS2 LS3 LS4 LS5 LS6 LS7 LS8 IS0 aY ++ w_Y cI cJ cZ aY VY0 LY0 LY1 LY2 IY0) ([.ref (aS 0)]).toArray s) (F0 m 2 ls []) := by
    intro n
    induction n with
    | zero =>
      intro x1_2 hi hfu H locs hP hD hS ls hl hR
      exact absurd hfu (Nat.not_lt_zero _)
    | succ n ih_2 =>
      intro x1_2 hi hfu H locs hP hD hS ls hl hR
      rw [f_Site_weeksSuffice_h2] at hR
      obtain ⟨rec_2, hrec_2, hR⟩ : ∃ r, r = _ ∧ f_Site_weeksSuffice_h2B VS2 NS2 LS4 LS8 k_2 r x1_2 = r0 := ⟨_, rfl, hR⟩
      unfold f_Site_weeksSuffice_h2B at hR
      refine lv_iload_n hx hb d_Site_weeksSuffice_2 rfl (lv_at hl 1 rfl) ?_
      refine lv_bipush (v := nI 12) hx hb d_Site_weeksSuffice_3 (by decide) ?_
      refine hw_icmp_ge (tgt := 26) hx hb d_Site_weeksSuffice_5 (by decide) (by omega) (by omega) (fun c5 => ?_) (fun c5 => ?_)
      · replace hR := (if_pos c5).symm.trans hR
        exact X_2 x1_2 (by first | assumption | omega | exact hw_upb (by assumption) (by omega)) H locs hP hD hS ls (lv_sub hl [0, 1] rfl) hR
      · replace hR := (if_neg c5).symm.trans hR
        refine lv_aload_n hx hb d_Site_weeksSuffice_8 rfl (lv_at hl 0 rfl) ?_
        refine lv_iload_n hx hb d_Site_weeksSuffice_9 rfl (lv_at hl 1 rfl) ?_
        obtain ⟨y10, hy10, hR⟩ := hw_bind hR
        have hM := c_Site_weekSpare l dC dI cI cJ cZ H.size aS VS0 VS1 VS2 NS0 NS1 NS2 LS0 LS1 LS2 LS3 LS4 LS5 LS6 LS7 LS8 IS0 aY VY0 LY0 LY1 LY2 IY0 x1_2 (by first | assumption | omega) (by first | assumption | omega) (by first | assumption | omega)
        rw [hy10] at hM
        refine hw_callVl (As := [.int (nI x1_2)]) (rest := []) (wr := ([] : va_W)) ⟨hx, hb, hml, hown, hG⟩ hM (hw_cwV 1 hG m_547 m_327 m_328 m_2 m_329 rfl rfl (by decide +kernel) ⟨Nat.le_of_ble_eq_true rfl, Nat.le_of_ble_eq_true rfl⟩) hK hP hD hS hA [0, 1, 2, 3, 4, 5, 6, 7, 8, 9, 10, 11, 12, 13, 14, 15, 16, 17, 18] [] rfl rfl (by decide) (by decide) (by decide) (hw_recv hK hP 0 rfl rfl) rfl hl.1 rfl (Nat.le_of_ble_eq_true rfl) d_Site_weeksSuffice_10 ⟨Nat.le_of_ble_eq_true rfl, Nat.le_of_ble_eq_true rfl⟩ (fun H locs hP hD hS => ?_)
        have hP : va_P (dC, dI) vwCl (w_S cI cJ cZ aS VS0 VS1 VS2 NS0 NS1 NS2 LS0 LS1 LS2 LS3 LS4 LS5 LS6 LS7 LS8 IS0 aY ++ w_Y cI cJ cZ aY VY0 LY0 LY1 LY2 IY0) H := hP
        have hD : va_D A (w_S cI cJ cZ aS VS0 VS1 VS2 NS0 NS1 NS2 LS0 LS1 LS2 LS3 LS4 LS5 LS6 LS7 LS8 IS0 aY ++ w_Y cI cJ cZ aY VY0 LY0 LY1 LY2 IY0) := hD
        refine lv_lconst (v := 0) hx hb d_Site_weeksSuffice_13 (by decide) ?_
        refine hw_lcmp_ge (tgt := 20) hx hb d_Site_weeksSuffice_14 d_Site_weeksSuffice_15 (by decide) (fun c14 => ?_) (fun c14 => ?_)
        · replace hR := (if_pos c14).symm.trans hR
          refine lv_iinc (v := nI (x1_2 + 1)) (lv' := [(1, .int (nI (x1_2 + 1))), (0, .ref (aS 0))]) hx hb d_Site_weeksSuffice_20 hl (k := 1) rfl (hw_inc _ 1) (by decide) rfl (fun ls hl => ?_)
          refine lv_goto (tgt := 2) hx hb d_Site_weeksSuffice_23 (by decide) ?_
          rw [hrec_2] at hR
          exact ih_2 (x1_2 + 1) (by first | assumption | omega | exact hw_upb (by assumption) (by omega)) (by omega) H locs hP hD hS ls (lv_sub hl [1, 0] rfl) hR
        · replace hR := (if_neg c14).symm.trans hR
          refine lv_iconst (v := nI 0) hx hb d_Site_weeksSuffice_18 (by decide) ?_
          subst hR
          exact W.zret (v := nI 0) hx hb hr (by decide) (fun t ht hW => ⟨⟨_, (), rfl, rfl, by rw [ht]; exact hP, va_K.moved hW.alike hK, hD⟩, hS.F ht⟩) hS.2.2 d_Site_weeksSuffice_19
  exact L_2 13 0 (by first | assumption | omega | exact hw_upb (by assumption) (by omega)) (by omega) H locs hP hD hS ls (lv_sub hl [1, 0] rfl) hR
def f_Site_givenUpTo_h5B (VS0 : Nat) (x1 : Int64) (LS1 : Nat → Int64) (NS0 : Nat → Nat) (LS0 : Nat → Int64) (LS6 : Nat → Int64) (LS7 : Nat → Int64) (k_5 : (Int64) → (Nat) → Int64) (rec_5 : (Int64) → (Nat) → Int64) (x3_5 : Int64) (x5_5 : Nat) : Int64 :=
  if VS0 ≤ x5_5 then (k_5 x3_5 x5_5) else (if x1 < (LS1 x5_5) then (rec_5 x3_5 (x5_5 + 1)) else (hh_bind (f_Site_gives NS0 LS0 LS6 LS7 x5_5) (fun y30 => rec_5 (x3_5 + y30) (x5_5 + 1))))
def f_Site_givenUpTo_h5 (VS0 : Nat) (x1 : Int64) (LS1 : Nat → Int64) (NS0 : Nat → Nat) (LS0 : Nat → Int64) (LS6 : Nat → Int64) (LS7 : Nat → Int64) (k_5 : (Int64) → (Nat) → Int64) : Nat → (Int64) → (Nat) → Int64
  | 0, x3_5, x5_5 => k_5 x3_5 x5_5
  | n + 1, x3_5, x5_5 => f_Site_givenUpTo_h5B VS0 x1 LS1 NS0 LS0 LS6 LS7 k_5 (fun x3_5 x5_5 => f_Site_givenUpTo_h5 VS0 x1 LS1 NS0 LS0 LS6 LS7 k_5 n x3_5 x5_5) x3_5 x5_5
def f_Site_givenUpTo_x5  (x3_5 : Int64) (x5_5 : Nat) : Int64 :=
  (x3_5)
def f_Site_givenUpTo (VS0 : Nat) (NS0 : Nat → Nat) (LS0 : Nat → Int64) (LS1 : Nat → Int64) (LS6 : Nat → Int64) (LS7 : Nat → Int64) (x1 : Int64) : Int64 :=
  f_Site_givenUpTo_h5 VS0 x1 LS1 NS0 LS0 LS6 LS7 f_Site_givenUpTo_x5 9 0 0
set_option maxHeartbeats 4000000 in
set_option maxRecDepth 100000 in
theorem c_Site_givenUpTo (l : Launch) (dC : Nat → ClassId) (dI : Nat → Nat → Nat) (cI cJ cZ : ClassId) (sz : Nat) (aS : Nat → Nat) (VS0 : Nat) (VS1 : Nat) (VS2 : Nat) (NS0 : Nat → Nat) (NS1 : Nat → Nat) (NS2 : Nat → Nat) (LS0 : Nat → Int64) (LS1 : Nat → Int64) (LS2 : Nat → Int64) (LS3 : Nat → Int64) (LS4 : Nat → Int64) (LS5 : Nat → Int64) (LS6 : Nat → Int64) (LS7 : Nat → Int64) (LS8 : Nat → Int64) (IS0 : Nat → Int32) (aY : Nat → Nat) (VY0 : Nat) (LY0 : Nat → Int64) (LY1 : Nat → Int64) (LY2 : Nat → Int64) (IY0 : Nat → Int32) (x1 : Int64) (hc8 : VS0 ≤ 8) (hk4 : ∀ i, NS0 i < 4) : hh_Cl l y_Site_givenUpTo u_Site_givenUpTo ({ frames := 1, cells := 0, slots := 0, locals := 24 }) (dC, dI) vwCl [(cI, .int), (cJ, .long), (cZ, .boolean)] (w_S cI cJ cZ aS VS0 VS1 VS2 NS0 NS1 NS2 LS0 LS1 LS2 LS3 LS4 LS5 LS6 LS7 LS8 IS0 aY ++ w_Y cI cJ cZ aY VY0 LY0 LY1 LY2 IY0) sz [.ref (aS 0), .long x1] (f_Site_givenUpTo VS0 NS0 LS0 LS1 LS6 LS7 x1) (w_S cI cJ cZ aS VS0 VS1 VS2 NS0 NS1 NS2 LS0 LS1 LS2 LS3 LS4 LS5 LS6 LS7 LS8 IS0 aY ++ w_Y cI cJ cZ aY VY0 LY0 LY1 LY2 IY0) 0 0 := by
  unfold hh_Cl
  refine Met.ofW (cc := b_Site_givenUpTo) (maxL := 6) (ret := (some .long)) (by decide) rfl ?_
  intro p e s m args below meth c s₁ B hml hv
  obtain ⟨rfl, hsz, hP, hK, hD0⟩ := hv
  have hx := B.exec
  have hb := B.bytes
  have hr := B.returns
  have hts := atoms_spec (ws := u_Site_givenUpTo) B.pre
  have hG : ∀ w ∈ wG, w.before ([.ref (aS 0), .long x1]).toArray s = true := fun w h => hts w (List.mem_cons_of_mem _ h)
  have hown : s.vm.findClass R_Site = some m.cls := findClass_of_methodNamed B.named
  have hlocks := B.notSynchronized
  subst hsz
  have hD := hD0.self (sz := s.heap.size)
  generalize hAe : va_A (w_S cI cJ cZ aS VS0 VS1 VS2 NS0 NS1 NS2 LS0 LS1 LS2 LS3 LS4 LS5 LS6 LS7 LS8 IS0 aY ++ w_Y cI cJ cZ aY VY0 LY0 LY1 LY2 IY0) s.heap.size = A at hD ⊢
  have hA : ∀ q : Nat, s.heap.size ≤ q → A q := fun q h => by rw [← hAe]; exact Or.inr h
  have hS : va_S A s.heap s.heap [] := va_S.rf
  have hl := lv_entry ([.ref (aS 0), .long x1]) (n := 6) (Nat.le_of_ble_eq_true rfl)
  rw [lg_entry_eq]
  generalize (lg_sl ([.ref (aS 0), .long x1]) ++ List.replicate (6 - (lg_sl ([.ref (aS 0), .long x1])).length) Slot.unset).toArray = ls at hl ⊢
  have hl : lv_has ls 6 [(0, .ref (aS 0)), (1, .long x1)] := hl
  generalize hR : f_Site_givenUpTo VS0 NS0 LS0 LS1 LS6 LS7 x1 = r0
  obtain ⟨H, locs, hHe, hle⟩ : ∃ (H : Heap) (locs : List Loc), s.heap = H ∧ [] = locs := ⟨_, _, rfl, rfl⟩
  have hP : va_P (dC, dI) vwCl (w_S cI cJ cZ aS VS0 VS1 VS2 NS0 NS1 NS2 LS0 LS1 LS2 LS3 LS4 LS5 LS6 LS7 LS8 IS0 aY ++ w_Y cI cJ cZ aY VY0 LY0 LY1 LY2 IY0) H := by rw [← hHe]; exact hP
  have hS : va_S A s.heap H locs := by rw [← hHe, ← hle]; exact hS
  refine hw_start hHe hle ?_
  unfold f_Site_givenUpTo at hR
  refine lv_lconst (v := 0) hx hb d_Site_givenUpTo_0 (by decide) ?_
  refine lv_lstore_n (lv' := [(3, .long 0), (0, .ref (aS 0)), (1, .long x1)]) hx hb d_Site_givenUpTo_1 rfl hl (by decide) rfl (fun ls hl => ?_)
  refine lv_iconst (v := nI 0) hx hb d_Site_givenUpTo_2 (by decide) ?_
  refine lv_istore (lv' := [(5, .int (nI 0)), (3, .long 0), (0, .ref (aS 0)), (1, .long x1)]) hx hb d_Site_givenUpTo_3 hl (by decide) rfl (fun ls hl => ?_)
  obtain ⟨k_5, hk_5, hR⟩ : ∃ k, f_Site_givenUpTo_x5 = k ∧ f_Site_givenUpTo_h5 VS0 x1 LS1 NS0 LS0 LS6 LS7 k 9 0 0 = r0 := ⟨_, rfl, hR⟩
  have X_5 : ∀ (x3_5 : Int64) (x5_5 : Nat) (hi : x5_5 ≤ (VS0)) (H : Heap) (locs : List Loc) (hP : va_P (dC, dI) vwCl (w_S cI cJ cZ aS VS0 VS1 VS2 NS0 NS1 NS2 LS0 LS1 LS2 LS3 LS4 LS5 LS6 LS7 LS8 IS0 aY ++ w_Y cI cJ cZ aY VY0 LY0 LY1 LY2 IY0) H) (hD : va_D A (w_S cI cJ cZ aS VS0 VS1 VS2 NS0 NS1 NS2 LS0 LS1 LS2 LS3 LS4 LS5 LS6 LS7 LS8 IS0 aY ++ w_Y cI cJ cZ aY VY0 LY0 LY1 LY2 IY0)) (hS : va_S A s.heap H locs) (ls : Array Slot) (hl : lv_has ls 6 [(0, .ref (aS 0)), (1, .long x1), (3, .long x3_5), (5, .int (nI x5_5))]) (hR : k_5 x3_5 x5_5 = r0), W p l e (headSpec u_Site_givenUpTo ({ frames := 1, cells := 0, slots := 0, locals := 24 })).room s m ([.ref (aS 0), .long x1]).toArray below meth c H locs 0 0 (hh_Zl below (dC, dI) vwCl [(cI, .int), (cJ, .long), (cZ, .boolean)] A r0 (w_S cI cJ cZ aS VS0 VS1 VS2 NS0 NS1 NS2 LS0 LS1 LS2 LS3 LS4 LS5 LS6 LS7 LS8 IS0 aY ++ w_Y cI cJ cZ aY VY0 LY0 LY1 LY2 IY0) ([.ref (aS 0), .long x1]).toArray s) (F0 m 41 ls []) := by
    intro x3_5 x5_5 hi H locs hP hD hS ls hl hR
    rw [← hk_5] at hR
    unfold f_Site_givenUpTo_x5 at hR
    refine lv_lload_n hx hb d_Site_givenUpTo_41 rfl (lv_at hl 2 rfl) ?_
    subst hR
    exact W.lret (v := x3_5) hx hb hr (fun t ht hW => ⟨⟨_, (), rfl, rfl, by rw [ht]; exact hP, va_K.moved hW.alike hK, hD⟩, hS.F ht⟩) hS.2.2 d_Site_givenUpTo_42
  have L_5 : ∀ (n : Nat) (x3_5 : Int64) (x5_5 : Nat) (hi : x5_5 ≤ (VS0)) (hfu : (VS0) - x5_5 < n) (H : Heap) (locs : List Loc) (hP : va_P (dC, dI) vwCl (w_S cI cJ cZ aS VS0 VS1 VS2 NS0 NS1 NS2 LS0 LS1 LS2 LS3 LS4 LS5 LS6 LS7 LS8 IS0 aY ++ w_Y cI cJ cZ aY VY0 LY0 LY1 LY2 IY0) H) (hD : va_D A (w_S cI cJ cZ aS VS0 VS1 VS2 NS0 NS1 NS2 LS0 LS1 LS2 LS3 LS4 LS5 LS6 LS7 LS8 IS0 aY ++ w_Y cI cJ cZ aY VY0 LY0 LY1 LY2 IY0)) (hS : va_S A s.heap H locs) (ls : Array Slot) (hl : lv_has ls 6 [(0, .ref (aS 0)), (1, .long x1), (3, .long x3_5), (5, .int (nI x5_5))]) (hR : f_Site_givenUpTo_h5 VS0 x1 LS1 NS0 LS0 LS6 LS7 k_5 n x3_5 x5_5 = r0), W p l e (headSpec u_Site_givenUpTo ({ frames := 1, cells := 0, slots := 0, locals := 24 })).room s m ([.ref (aS 0), .long x1]).toArray below meth c H locs 0 0 (hh_Zl below (dC, dI) vwCl [(cI, .int), (cJ, .long), (cZ, .boolean)] A r0 (w_S cI cJ cZ aS VS0 VS1 VS2 NS0 NS1 NS2 LS0 LS1 LS2 LS3 LS4 LS5 LS6 LS7 LS8 IS0 aY ++ w_Y cI cJ cZ aY VY0 LY0 LY1 LY2 IY0) ([.ref (aS 0), .long x1]).toArray s) (F0 m 5 ls []) := by
    intro n
    induction n with
    | zero =>
      intro x3_5 x5_5 hi hfu H locs hP hD hS ls hl hR
      exact absurd hfu (Nat.not_lt_zero _)
    | succ n ih_5 =>
      intro x3_5 x5_5 hi hfu H locs hP hD hS ls hl hR
      rw [f_Site_givenUpTo_h5] at hR
      obtain ⟨rec_5, hrec_5, hR⟩ : ∃ r, r = _ ∧ f_Site_givenUpTo_h5B VS0 x1 LS1 NS0 LS0 LS6 LS7 k_5 r x3_5 x5_5 = r0 := ⟨_, rfl, hR⟩
      unfold f_Site_givenUpTo_h5B at hR
      refine lv_iload hx hb d_Site_givenUpTo_5 (lv_at hl 3 rfl) ?_
      refine lv_aload_n hx hb d_Site_givenUpTo_7 rfl (lv_at hl 0 rfl) ?_
      refine va_get (D := (dC, dI)) (ci := 2) (v := .int (nI VS0)) (C := R_Site) (T := T_Site) (N := 17) hx hb hG in_Site hown hK hP 0 rfl rfl 0 (by decide) (hG _ m_56) (fun _ h9 => h9) rfl d_Site_givenUpTo_8 ?_
      refine hw_icmp_ge (tgt := 41) hx hb d_Site_givenUpTo_11 (by decide) (by omega) (by omega) (fun c11 => ?_) (fun c11 => ?_)
      · replace hR := (if_pos c11).symm.trans hR
        exact X_5 x3_5 x5_5 (by first | assumption | omega | exact hw_upb (by assumption) (by omega)) H locs hP hD hS ls (lv_sub hl [0, 1, 2, 3] rfl) hR
      · replace hR := (if_neg c11).symm.trans hR
        refine lv_aload_n hx hb d_Site_givenUpTo_14 rfl (lv_at hl 0 rfl) ?_
        refine va_get (D := (dC, dI)) (ci := 2) (v := .ref (aS 2)) (C := R_Site) (T := T_Site) (N := 17) hx hb hG in_Site hown hK hP 0 rfl rfl 5 (by decide) (hG _ m_67) (fun _ h9 => h9) rfl d_Site_givenUpTo_15 ?_
        refine lv_iload hx hb d_Site_givenUpTo_18 (lv_at hl 3 rfl) ?_
        refine hw_lald (f := LS1) hx hb hK hP 2 1 rfl rfl (by decide) (by omega) d_Site_givenUpTo_20 ?_
        refine lv_lload_n hx hb d_Site_givenUpTo_21 rfl (lv_at hl 1 rfl) ?_
        refine hw_lcmp_gt (tgt := 35) hx hb d_Site_givenUpTo_22 d_Site_givenUpTo_23 (by decide) (fun c22 => ?_) (fun c22 => ?_)
        · replace hR := (if_pos c22).symm.trans hR
          refine lv_iinc (v := nI (x5_5 + 1)) (lv' := [(5, .int (nI (x5_5 + 1))), (0, .ref (aS 0)), (1, .long x1), (3, .long x3_5)]) hx hb d_Site_givenUpTo_35 hl (k := 3) rfl (hw_inc _ 1) (by decide) rfl (fun ls hl => ?_)
          refine lv_goto (tgt := 5) hx hb d_Site_givenUpTo_38 (by decide) ?_
          rw [hrec_5] at hR
          exact ih_5 x3_5 (x5_5 + 1) (by first | assumption | omega | exact hw_upb (by assumption) (by omega)) (by omega) H locs hP hD hS ls (lv_sub hl [1, 2, 3, 0] rfl) hR
        · replace hR := (if_neg c22).symm.trans hR
          refine lv_lload_n hx hb d_Site_givenUpTo_26 rfl (lv_at hl 2 rfl) ?_
          refine lv_aload_n hx hb d_Site_givenUpTo_27 rfl (lv_at hl 0 rfl) ?_
          refine lv_iload hx hb d_Site_givenUpTo_28 (lv_at hl 3 rfl) ?_
          obtain ⟨y30, hy30, hR⟩ := hw_bind hR
          have hM := c_Site_gives l dC dI cI cJ cZ H.size aS VS0 VS1 VS2 NS0 NS1 NS2 LS0 LS1 LS2 LS3 LS4 LS5 LS6 LS7 LS8 IS0 aY VY0 LY0 LY1 LY2 IY0 x5_5 (by first | assumption | omega) (by first | assumption | omega)
          rw [hy30] at hM
          refine hw_callVl (As := [.int (nI x5_5)]) (rest := [.long x3_5]) (wr := ([] : va_W)) ⟨hx, hb, hml, hown, hG⟩ hM (hw_cwV 1 hG m_386 m_357 m_358 m_2 m_359 rfl rfl (by decide +kernel) ⟨Nat.le_of_ble_eq_true rfl, Nat.le_of_ble_eq_true rfl⟩) hK hP hD hS hA [0, 1, 2, 3, 4, 5, 6, 7, 8, 9, 10, 11, 12, 13, 14, 15, 16, 17, 18] [] rfl rfl (by decide) (by decide) (by decide) (hw_recv hK hP 0 rfl rfl) rfl hl.1 rfl (Nat.le_of_ble_eq_true rfl) d_Site_givenUpTo_30 ⟨Nat.le_of_ble_eq_true rfl, Nat.le_of_ble_eq_true rfl⟩ (fun H locs hP hD hS => ?_)
          have hP : va_P (dC, dI) vwCl (w_S cI cJ cZ aS VS0 VS1 VS2 NS0 NS1 NS2 LS0 LS1 LS2 LS3 LS4 LS5 LS6 LS7 LS8 IS0 aY ++ w_Y cI cJ cZ aY VY0 LY0 LY1 LY2 IY0) H := hP
          have hD : va_D A (w_S cI cJ cZ aS VS0 VS1 VS2 NS0 NS1 NS2 LS0 LS1 LS2 LS3 LS4 LS5 LS6 LS7 LS8 IS0 aY ++ w_Y cI cJ cZ aY VY0 LY0 LY1 LY2 IY0) := hD
          refine lv_ladd hx hb d_Site_givenUpTo_33 ?_
          refine lv_lstore_n (lv' := [(3, .long (x3_5 + y30)), (0, .ref (aS 0)), (1, .long x1), (5, .int (nI x5_5))]) hx hb d_Site_givenUpTo_34 rfl hl (by decide) rfl (fun ls hl => ?_)
          refine lv_iinc (v := nI (x5_5 + 1)) (lv' := [(5, .int (nI (x5_5 + 1))), (3, .long (x3_5 + y30)), (0, .ref (aS 0)), (1, .long x1)]) hx hb d_Site_givenUpTo_35 hl (k := 3) rfl (hw_inc _ 1) (by decide) rfl (fun ls hl => ?_)
          refine lv_goto (tgt := 5) hx hb d_Site_givenUpTo_38 (by decide) ?_
          rw [hrec_5] at hR
          exact ih_5 (x3_5 + y30) (x5_5 + 1) (by first | assumption | omega | exact hw_upb (by assumption) (by omega)) (by omega) H locs hP hD hS ls (lv_sub hl [2, 3, 1, 0] rfl) hR
  exact L_5 9 0 0 (by first | assumption | omega | exact hw_upb (by assumption) (by omega)) (by omega) H locs hP hD hS ls (lv_sub hl [2, 3, 1, 0] rfl) hR
def f_Site_wantedUpTo_h5B (VS2 : Nat) (x1 : Int64) (LS5 : Nat → Int64) (LS4 : Nat → Int64) (k_5 : (Int64) → (Nat) → Int64) (rec_5 : (Int64) → (Nat) → Int64) (x3_5 : Int64) (x5_5 : Nat) : Int64 :=
  if VS2 ≤ x5_5 then (k_5 x3_5 x5_5) else (if x1 < (LS5 x5_5) then (rec_5 x3_5 (x5_5 + 1)) else (rec_5 (x3_5 + (LS4 x5_5)) (x5_5 + 1)))
def f_Site_wantedUpTo_h5 (VS2 : Nat) (x1 : Int64) (LS5 : Nat → Int64) (LS4 : Nat → Int64) (k_5 : (Int64) → (Nat) → Int64) : Nat → (Int64) → (Nat) → Int64
  | 0, x3_5, x5_5 => k_5 x3_5 x5_5
  | n + 1, x3_5, x5_5 => f_Site_wantedUpTo_h5B VS2 x1 LS5 LS4 k_5 (fun x3_5 x5_5 => f_Site_wantedUpTo_h5 VS2 x1 LS5 LS4 k_5 n x3_5 x5_5) x3_5 x5_5
def f_Site_wantedUpTo_x5  (x3_5 : Int64) (x5_5 : Nat) : Int64 :=
  (x3_5)
def f_Site_wantedUpTo (VS2 : Nat) (LS4 : Nat → Int64) (LS5 : Nat → Int64) (x1 : Int64) : Int64 :=
  f_Site_wantedUpTo_h5 VS2 x1 LS5 LS4 f_Site_wantedUpTo_x5 9 0 0
set_option maxHeartbeats 4000000 in
set_option maxRecDepth 100000 in
theorem c_Site_wantedUpTo (l : Launch) (dC : Nat → ClassId) (dI : Nat → Nat → Nat) (cI cJ cZ : ClassId) (sz : Nat) (aS : Nat → Nat) (VS0 : Nat) (VS1 : Nat) (VS2 : Nat) (NS0 : Nat → Nat) (NS1 : Nat → Nat) (NS2 : Nat → Nat) (LS0 : Nat → Int64) (LS1 : Nat → Int64) (LS2 : Nat → Int64) (LS3 : Nat → Int64) (LS4 : Nat → Int64) (LS5 : Nat → Int64) (LS6 : Nat → Int64) (LS7 : Nat → Int64) (LS8 : Nat → Int64) (IS0 : Nat → Int32) (aY : Nat → Nat) (VY0 : Nat) (LY0 : Nat → Int64) (LY1 : Nat → Int64) (LY2 : Nat → Int64) (IY0 : Nat → Int32) (x1 : Int64) (hf8 : VS2 ≤ 8) : hh_Cl l y_Site_wantedUpTo u_Site_wantedUpTo ({ frames := 0, cells := 0, slots := 0, locals := 0 }) (dC, dI) vwCl [(cI, .int), (cJ, .long), (cZ, .boolean)] (w_S cI cJ cZ aS VS0 VS1 VS2 NS0 NS1 NS2 LS0 LS1 LS2 LS3 LS4 LS5 LS6 LS7 LS8 IS0 aY ++ w_Y cI cJ cZ aY VY0 LY0 LY1 LY2 IY0) sz [.ref (aS 0), .long x1] (f_Site_wantedUpTo VS2 LS4 LS5 x1) (w_S cI cJ cZ aS VS0 VS1 VS2 NS0 NS1 NS2 LS0 LS1 LS2 LS3 LS4 LS5 LS6 LS7 LS8 IS0 aY ++ w_Y cI cJ cZ aY VY0 LY0 LY1 LY2 IY0) 0 0 := by
  unfold hh_Cl
  refine Met.ofW (cc := b_Site_wantedUpTo) (maxL := 6) (ret := (some .long)) (by decide) rfl ?_
  intro p e s m args below meth c s₁ B hml hv
  obtain ⟨rfl, hsz, hP, hK, hD0⟩ := hv
  have hx := B.exec
  have hb := B.bytes
  have hr := B.returns
  have hts := atoms_spec (ws := u_Site_wantedUpTo) B.pre
  have hG : ∀ w ∈ wG, w.before ([.ref (aS 0), .long x1]).toArray s = true := fun w h => hts w (List.mem_cons_of_mem _ h)
  have hown : s.vm.findClass R_Site = some m.cls := findClass_of_methodNamed B.named
  have hlocks := B.notSynchronized
  subst hsz
  have hD := hD0.self (sz := s.heap.size)
  generalize hAe : va_A (w_S cI cJ cZ aS VS0 VS1 VS2 NS0 NS1 NS2 LS0 LS1 LS2 LS3 LS4 LS5 LS6 LS7 LS8 IS0 aY ++ w_Y cI cJ cZ aY VY0 LY0 LY1 LY2 IY0) s.heap.size = A at hD ⊢
  have hA : ∀ q : Nat, s.heap.size ≤ q → A q := fun q h => by rw [← hAe]; exact Or.inr h
  have hS : va_S A s.heap s.heap [] := va_S.rf
  have hl := lv_entry ([.ref (aS 0), .long x1]) (n := 6) (Nat.le_of_ble_eq_true rfl)
  rw [lg_entry_eq]
  generalize (lg_sl ([.ref (aS 0), .long x1]) ++ List.replicate (6 - (lg_sl ([.ref (aS 0), .long x1])).length) Slot.unset).toArray = ls at hl ⊢
  have hl : lv_has ls 6 [(0, .ref (aS 0)), (1, .long x1)] := hl
  generalize hR : f_Site_wantedUpTo VS2 LS4 LS5 x1 = r0
  obtain ⟨H, locs, hHe, hle⟩ : ∃ (H : Heap) (locs : List Loc), s.heap = H ∧ [] = locs := ⟨_, _, rfl, rfl⟩
  have hP : va_P (dC, dI) vwCl (w_S cI cJ cZ aS VS0 VS1 VS2 NS0 NS1 NS2 LS0 LS1 LS2 LS3 LS4 LS5 LS6 LS7 LS8 IS0 aY ++ w_Y cI cJ cZ aY VY0 LY0 LY1 LY2 IY0) H := by rw [← hHe]; exact hP
  have hS : va_S A s.heap H locs := by rw [← hHe, ← hle]; exact hS
  refine hw_start hHe hle ?_
  unfold f_Site_wantedUpTo at hR
  refine lv_lconst (v := 0) hx hb d_Site_wantedUpTo_0 (by decide) ?_
  refine lv_lstore_n (lv' := [(3, .long 0), (0, .ref (aS 0)), (1, .long x1)]) hx hb d_Site_wantedUpTo_1 rfl hl (by decide) rfl (fun ls hl => ?_)
  refine lv_iconst (v := nI 0) hx hb d_Site_wantedUpTo_2 (by decide) ?_
  refine lv_istore (lv' := [(5, .int (nI 0)), (3, .long 0), (0, .ref (aS 0)), (1, .long x1)]) hx hb d_Site_wantedUpTo_3 hl (by decide) rfl (fun ls hl => ?_)
  obtain ⟨k_5, hk_5, hR⟩ : ∃ k, f_Site_wantedUpTo_x5 = k ∧ f_Site_wantedUpTo_h5 VS2 x1 LS5 LS4 k 9 0 0 = r0 := ⟨_, rfl, hR⟩
  have X_5 : ∀ (x3_5 : Int64) (x5_5 : Nat) (hi : x5_5 ≤ (VS2)) (H : Heap) (locs : List Loc) (hP : va_P (dC, dI) vwCl (w_S cI cJ cZ aS VS0 VS1 VS2 NS0 NS1 NS2 LS0 LS1 LS2 LS3 LS4 LS5 LS6 LS7 LS8 IS0 aY ++ w_Y cI cJ cZ aY VY0 LY0 LY1 LY2 IY0) H) (hD : va_D A (w_S cI cJ cZ aS VS0 VS1 VS2 NS0 NS1 NS2 LS0 LS1 LS2 LS3 LS4 LS5 LS6 LS7 LS8 IS0 aY ++ w_Y cI cJ cZ aY VY0 LY0 LY1 LY2 IY0)) (hS : va_S A s.heap H locs) (ls : Array Slot) (hl : lv_has ls 6 [(0, .ref (aS 0)), (1, .long x1), (3, .long x3_5), (5, .int (nI x5_5))]) (hR : k_5 x3_5 x5_5 = r0), W p l e (headSpec u_Site_wantedUpTo ({ frames := 0, cells := 0, slots := 0, locals := 0 })).room s m ([.ref (aS 0), .long x1]).toArray below meth c H locs 0 0 (hh_Zl below (dC, dI) vwCl [(cI, .int), (cJ, .long), (cZ, .boolean)] A r0 (w_S cI cJ cZ aS VS0 VS1 VS2 NS0 NS1 NS2 LS0 LS1 LS2 LS3 LS4 LS5 LS6 LS7 LS8 IS0 aY ++ w_Y cI cJ cZ aY VY0 LY0 LY1 LY2 IY0) ([.ref (aS 0), .long x1]).toArray s) (F0 m 42 ls []) := by
    intro x3_5 x5_5 hi H locs hP hD hS ls hl hR
    rw [← hk_5] at hR
    unfold f_Site_wantedUpTo_x5 at hR
    refine lv_lload_n hx hb d_Site_wantedUpTo_42 rfl (lv_at hl 2 rfl) ?_
    subst hR
    exact W.lret (v := x3_5) hx hb hr (fun t ht hW => ⟨⟨_, (), rfl, rfl, by rw [ht]; exact hP, va_K.moved hW.alike hK, hD⟩, hS.F ht⟩) hS.2.2 d_Site_wantedUpTo_43
  have L_5 : ∀ (n : Nat) (x3_5 : Int64) (x5_5 : Nat) (hi : x5_5 ≤ (VS2)) (hfu : (VS2) - x5_5 < n) (H : Heap) (locs : List Loc) (hP : va_P (dC, dI) vwCl (w_S cI cJ cZ aS VS0 VS1 VS2 NS0 NS1 NS2 LS0 LS1 LS2 LS3 LS4 LS5 LS6 LS7 LS8 IS0 aY ++ w_Y cI cJ cZ aY VY0 LY0 LY1 LY2 IY0) H) (hD : va_D A (w_S cI cJ cZ aS VS0 VS1 VS2 NS0 NS1 NS2 LS0 LS1 LS2 LS3 LS4 LS5 LS6 LS7 LS8 IS0 aY ++ w_Y cI cJ cZ aY VY0 LY0 LY1 LY2 IY0)) (hS : va_S A s.heap H locs) (ls : Array Slot) (hl : lv_has ls 6 [(0, .ref (aS 0)), (1, .long x1), (3, .long x3_5), (5, .int (nI x5_5))]) (hR : f_Site_wantedUpTo_h5 VS2 x1 LS5 LS4 k_5 n x3_5 x5_5 = r0), W p l e (headSpec u_Site_wantedUpTo ({ frames := 0, cells := 0, slots := 0, locals := 0 })).room s m ([.ref (aS 0), .long x1]).toArray below meth c H locs 0 0 (hh_Zl below (dC, dI) vwCl [(cI, .int), (cJ, .long), (cZ, .boolean)] A r0 (w_S cI cJ cZ aS VS0 VS1 VS2 NS0 NS1 NS2 LS0 LS1 LS2 LS3 LS4 LS5 LS6 LS7 LS8 IS0 aY ++ w_Y cI cJ cZ aY VY0 LY0 LY1 LY2 IY0) ([.ref (aS 0), .long x1]).toArray s) (F0 m 5 ls []) := by
    intro n
    induction n with
    | zero =>
      intro x3_5 x5_5 hi hfu H locs hP hD hS ls hl hR
      exact absurd hfu (Nat.not_lt_zero _)
    | succ n ih_5 =>
      intro x3_5 x5_5 hi hfu H locs hP hD hS ls hl hR
      rw [f_Site_wantedUpTo_h5] at hR
      obtain ⟨rec_5, hrec_5, hR⟩ : ∃ r, r = _ ∧ f_Site_wantedUpTo_h5B VS2 x1 LS5 LS4 k_5 r x3_5 x5_5 = r0 := ⟨_, rfl, hR⟩
      unfold f_Site_wantedUpTo_h5B at hR
      refine lv_iload hx hb d_Site_wantedUpTo_5 (lv_at hl 3 rfl) ?_
      refine lv_aload_n hx hb d_Site_wantedUpTo_7 rfl (lv_at hl 0 rfl) ?_
      refine va_get (D := (dC, dI)) (ci := 2) (v := .int (nI VS2)) (C := R_Site) (T := T_Site) (N := 17) hx hb hG in_Site hown hK hP 0 rfl rfl 2 (by decide) (hG _ m_61) (fun _ h9 => h9) rfl d_Site_wantedUpTo_8 ?_
      refine hw_icmp_ge (tgt := 42) hx hb d_Site_wantedUpTo_11 (by decide) (by omega) (by omega) (fun c11 => ?_) (fun c11 => ?_)
      · replace hR := (if_pos c11).symm.trans hR
        exact X_5 x3_5 x5_5 (by first | assumption | omega | exact hw_upb (by assumption) (by omega)) H locs hP hD hS ls (lv_sub hl [0, 1, 2, 3] rfl) hR
      · replace hR := (if_neg c11).symm.trans hR
        refine lv_aload_n hx hb d_Site_wantedUpTo_14 rfl (lv_at hl 0 rfl) ?_
        refine va_get (D := (dC, dI)) (ci := 2) (v := .ref (aS 8)) (C := R_Site) (T := T_Site) (N := 17) hx hb hG in_Site hown hK hP 0 rfl rfl 11 (by decide) (hG _ m_76) (fun _ h9 => h9) rfl d_Site_wantedUpTo_15 ?_
        refine lv_iload hx hb d_Site_wantedUpTo_18 (lv_at hl 3 rfl) ?_
        refine hw_lald (f := LS5) hx hb hK hP 8 1 rfl rfl (by decide) (by omega) d_Site_wantedUpTo_20 ?_
        refine lv_lload_n hx hb d_Site_wantedUpTo_21 rfl (lv_at hl 1 rfl) ?_
        refine hw_lcmp_gt (tgt := 36) hx hb d_Site_wantedUpTo_22 d_Site_wantedUpTo_23 (by decide) (fun c22 => ?_) (fun c22 => ?_)
        · replace hR := (if_pos c22).symm.trans hR
          refine lv_iinc (v := nI (x5_5 + 1)) (lv' := [(5, .int (nI (x5_5 + 1))), (0, .ref (aS 0)), (1, .long x1), (3, .long x3_5)]) hx hb d_Site_wantedUpTo_36 hl (k := 3) rfl (hw_inc _ 1) (by decide) rfl (fun ls hl => ?_)
          refine lv_goto (tgt := 5) hx hb d_Site_wantedUpTo_39 (by decide) ?_
          rw [hrec_5] at hR
          exact ih_5 x3_5 (x5_5 + 1) (by first | assumption | omega | exact hw_upb (by assumption) (by omega)) (by omega) H locs hP hD hS ls (lv_sub hl [1, 2, 3, 0] rfl) hR
        · replace hR := (if_neg c22).symm.trans hR
          refine lv_lload_n hx hb d_Site_wantedUpTo_26 rfl (lv_at hl 2 rfl) ?_
          refine lv_aload_n hx hb d_Site_wantedUpTo_27 rfl (lv_at hl 0 rfl) ?_
          refine va_get (D := (dC, dI)) (ci := 2) (v := .ref (aS 7)) (C := R_Site) (T := T_Site) (N := 17) hx hb hG in_Site hown hK hP 0 rfl rfl 10 (by decide) (hG _ m_72) (fun _ h9 => h9) rfl d_Site_wantedUpTo_28 ?_
          refine lv_iload hx hb d_Site_wantedUpTo_31 (lv_at hl 3 rfl) ?_
          refine hw_lald (f := LS4) hx hb hK hP 7 1 rfl rfl (by decide) (by omega) d_Site_wantedUpTo_33 ?_
          refine lv_ladd hx hb d_Site_wantedUpTo_34 ?_
          refine lv_lstore_n (lv' := [(3, .long (x3_5 + (LS4 x5_5))), (0, .ref (aS 0)), (1, .long x1), (5, .int (nI x5_5))]) hx hb d_Site_wantedUpTo_35 rfl hl (by decide) rfl (fun ls hl => ?_)
          refine lv_iinc (v := nI (x5_5 + 1)) (lv' := [(5, .int (nI (x5_5 + 1))), (3, .long (x3_5 + (LS4 x5_5))), (0, .ref (aS 0)), (1, .long x1)]) hx hb d_Site_wantedUpTo_36 hl (k := 3) rfl (hw_inc _ 1) (by decide) rfl (fun ls hl => ?_)
          refine lv_goto (tgt := 5) hx hb d_Site_wantedUpTo_39 (by decide) ?_
          rw [hrec_5] at hR
          exact ih_5 (x3_5 + (LS4 x5_5)) (x5_5 + 1) (by first | assumption | omega | exact hw_upb (by assumption) (by omega)) (by omega) H locs hP hD hS ls (lv_sub hl [2, 3, 1, 0] rfl) hR
  exact L_5 9 0 0 (by first | assumption | omega | exact hw_upb (by assumption) (by omega)) (by omega) H locs hP hD hS ls (lv_sub hl [2, 3, 1, 0] rfl) hR
def f_Site_addCut (VS0 : Nat) (NS0 : Nat → Nat) (NS1 : Nat → Nat) (LS0 : Nat → Int64) (LS1 : Nat → Int64) (x1 : Int64) (x3 : Nat) (x4 : Nat) (x5 : Int64) : Nat × (Nat) × (Nat → Nat) × (Nat → Nat) × (Nat → Int64) × (Nat → Int64) :=
  ((VS0 + 1) - 1, VS0 + 1, va_up NS0 VS0 x3, va_up NS1 VS0 x4, vp_updL LS0 VS0 x1, vp_updL LS1 VS0 x5)
set_option maxHeartbeats 4000000 in
set_option maxRecDepth 100000 in
theorem c_Site_addCut (l : Launch) (dC : Nat → ClassId) (dI : Nat → Nat → Nat) (cI cJ cZ : ClassId) (sz : Nat) (aS : Nat → Nat) (VS0 : Nat) (VS1 : Nat) (VS2 : Nat) (NS0 : Nat → Nat) (NS1 : Nat → Nat) (NS2 : Nat → Nat) (LS0 : Nat → Int64) (LS1 : Nat → Int64) (LS2 : Nat → Int64) (LS3 : Nat → Int64) (LS4 : Nat → Int64) (LS5 : Nat → Int64) (LS6 : Nat → Int64) (LS7 : Nat → Int64) (LS8 : Nat → Int64) (IS0 : Nat → Int32) (aY : Nat → Nat) (VY0 : Nat) (LY0 : Nat → Int64) (LY1 : Nat → Int64) (LY2 : Nat → Int64) (IY0 : Nat → Int32) (x1 : Int64) (x3 : Nat) (x4 : Nat) (x5 : Int64) (hc7 : VS0 < 8) : hh_Ci l y_Site_addCut u_Site_addCut ({ frames := 0, cells := 0, slots := 0, locals := 0 }) (dC, dI) vwCl [(cI, .int), (cJ, .long), (cZ, .boolean)] (w_S cI cJ cZ aS VS0 VS1 VS2 NS0 NS1 NS2 LS0 LS1 LS2 LS3 LS4 LS5 LS6 LS7 LS8 IS0 aY ++ w_Y cI cJ cZ aY VY0 LY0 LY1 LY2 IY0) sz [.ref (aS 0), .long x1, .int (nI x3), .int (nI x4), .long x5] (nI ((f_Site_addCut VS0 NS0 NS1 LS0 LS1 x1 x3 x4 x5).1)) (w_S cI cJ cZ aS ((f_Site_addCut VS0 NS0 NS1 LS0 LS1 x1 x3 x4 x5).2.1) VS1 VS2 ((f_Site_addCut VS0 NS0 NS1 LS0 LS1 x1 x3 x4 x5).2.2.1) ((f_Site_addCut VS0 NS0 NS1 LS0 LS1 x1 x3 x4 x5).2.2.2.1) NS2 ((f_Site_addCut VS0 NS0 NS1 LS0 LS1 x1 x3 x4 x5).2.2.2.2.1) ((f_Site_addCut VS0 NS0 NS1 LS0 LS1 x1 x3 x4 x5).2.2.2.2.2) LS2 LS3 LS4 LS5 LS6 LS7 LS8 IS0 aY ++ w_Y cI cJ cZ aY VY0 LY0 LY1 LY2 IY0) 0 0 := by
  unfold hh_Ci
  refine Met.ofW (cc := b_Site_addCut) (maxL := 7) (ret := (some .int)) (by decide) rfl ?_
  intro p e s m args below meth c s₁ B hml hv
  obtain ⟨rfl, hsz, hP, hK, hD0⟩ := hv
  have hx := B.exec
  have hb := B.bytes
  have hr := B.returns
  have hts := atoms_spec (ws := u_Site_addCut) B.pre
  have hG : ∀ w ∈ wG, w.before ([.ref (aS 0), .long x1, .int (nI x3), .int (nI x4), .long x5]).toArray s = true := fun w h => hts w (List.mem_cons_of_mem _ h)
  have hown : s.vm.findClass R_Site = some m.cls := findClass_of_methodNamed B.named
  have hlocks := B.notSynchronized
  subst hsz
  have hD := hD0.self (sz := s.heap.size)
  generalize hAe : va_A (w_S cI cJ cZ aS VS0 VS1 VS2 NS0 NS1 NS2 LS0 LS1 LS2 LS3 LS4 LS5 LS6 LS7 LS8 IS0 aY ++ w_Y cI cJ cZ aY VY0 LY0 LY1 LY2 IY0) s.heap.size = A at hD ⊢
  have hA : ∀ q : Nat, s.heap.size ≤ q → A q := fun q h => by rw [← hAe]; exact Or.inr h
  have hS : va_S A s.heap s.heap [] := va_S.rf
  have hl := lv_entry ([.ref (aS 0), .long x1, .int (nI x3), .int (nI x4), .long x5]) (n := 7) (Nat.le_of_ble_eq_true rfl)
  rw [lg_entry_eq]
  generalize (lg_sl ([.ref (aS 0), .long x1, .int (nI x3), .int (nI x4), .long x5]) ++ List.replicate (7 - (lg_sl ([.ref (aS 0), .long x1, .int (nI x3), .int (nI x4), .long x5])).length) Slot.unset).toArray = ls at hl ⊢
  have hl : lv_has ls 7 [(0, .ref (aS 0)), (1, .long x1), (3, .int (nI x3)), (4, .int (nI x4)), (5, .long x5)] := hl
  generalize hR : f_Site_addCut VS0 NS0 NS1 LS0 LS1 x1 x3 x4 x5 = r0
  obtain ⟨H, locs, hHe, hle⟩ : ∃ (H : Heap) (locs : List Loc), s.heap = H ∧ [] = locs := ⟨_, _, rfl, rfl⟩
  have hP : va_P (dC, dI) vwCl (w_S cI cJ cZ aS VS0 VS1 VS2 NS0 NS1 NS2 LS0 LS1 LS2 LS3 LS4 LS5 LS6 LS7 LS8 IS0 aY ++ w_Y cI cJ cZ aY VY0 LY0 LY1 LY2 IY0) H := by rw [← hHe]; exact hP
  have hS : va_S A s.heap H locs := by rw [← hHe, ← hle]; exact hS
  refine hw_start hHe hle ?_
  unfold f_Site_addCut at hR
  refine lv_aload_n hx hb d_Site_addCut_0 rfl (lv_at hl 0 rfl) ?_
  refine va_get (D := (dC, dI)) (ci := 2) (v := .ref (aS 1)) (C := R_Site) (T := T_Site) (N := 17) hx hb hG in_Site hown hK hP 0 rfl rfl 4 (by decide) (hG _ m_66) (fun _ h9 => h9) rfl d_Site_addCut_1 ?_
  refine lv_aload_n hx hb d_Site_addCut_4 rfl (lv_at hl 0 rfl) ?_
  refine va_get (D := (dC, dI)) (ci := 2) (v := .int (nI VS0)) (C := R_Site) (T := T_Site) (N := 17) hx hb hG in_Site hown hK hP 0 rfl rfl 0 (by decide) (hG _ m_56) (fun _ h9 => h9) rfl d_Site_addCut_5 ?_
  refine lv_lload_n hx hb d_Site_addCut_8 rfl (lv_at hl 1 rfl) ?_
  refine hw_last (f := LS0) hx hb hK hP hD hS 1 1 rfl rfl (by decide) (by omega) d_Site_addCut_9 (fun H locs hP hD hS => ?_)
  have hP : va_P (dC, dI) vwCl (w_S cI cJ cZ aS VS0 VS1 VS2 NS0 NS1 NS2 (vp_updL LS0 VS0 x1) LS1 LS2 LS3 LS4 LS5 LS6 LS7 LS8 IS0 aY ++ w_Y cI cJ cZ aY VY0 LY0 LY1 LY2 IY0) H := hP
  have hD : va_D A (w_S cI cJ cZ aS VS0 VS1 VS2 NS0 NS1 NS2 (vp_updL LS0 VS0 x1) LS1 LS2 LS3 LS4 LS5 LS6 LS7 LS8 IS0 aY ++ w_Y cI cJ cZ aY VY0 LY0 LY1 LY2 IY0) := hD
  refine lv_aload_n hx hb d_Site_addCut_10 rfl (lv_at hl 0 rfl) ?_
  refine va_get (D := (dC, dI)) (ci := 2) (v := .ref (aS 3)) (C := R_Site) (T := T_Site) (N := 17) hx hb hG in_Site hown hK hP 0 rfl rfl 6 (by decide) (hG _ m_68) (fun _ h9 => h9) rfl d_Site_addCut_11 ?_
  refine lv_aload_n hx hb d_Site_addCut_14 rfl (lv_at hl 0 rfl) ?_
  refine va_get (D := (dC, dI)) (ci := 2) (v := .int (nI VS0)) (C := R_Site) (T := T_Site) (N := 17) hx hb hG in_Site hown hK hP 0 rfl rfl 0 (by decide) (hG _ m_56) (fun _ h9 => h9) rfl d_Site_addCut_15 ?_
  refine lv_iload_n hx hb d_Site_addCut_18 rfl (lv_at hl 2 rfl) ?_
  refine hw_nast (g := NS0) hx hb hK hP hD hS 3 0 rfl rfl (by decide) (by omega) d_Site_addCut_19 (fun H locs hP hD hS => ?_)
  have hP : va_P (dC, dI) vwCl (w_S cI cJ cZ aS VS0 VS1 VS2 (va_up NS0 VS0 x3) NS1 NS2 (vp_updL LS0 VS0 x1) LS1 LS2 LS3 LS4 LS5 LS6 LS7 LS8 IS0 aY ++ w_Y cI cJ cZ aY VY0 LY0 LY1 LY2 IY0) H := hP
  have hD : va_D A (w_S cI cJ cZ aS VS0 VS1 VS2 (va_up NS0 VS0 x3) NS1 NS2 (vp_updL LS0 VS0 x1) LS1 LS2 LS3 LS4 LS5 LS6 LS7 LS8 IS0 aY ++ w_Y cI cJ cZ aY VY0 LY0 LY1 LY2 IY0) := hD
  refine lv_aload_n hx hb d_Site_addCut_20 rfl (lv_at hl 0 rfl) ?_
  refine va_get (D := (dC, dI)) (ci := 2) (v := .ref (aS 4)) (C := R_Site) (T := T_Site) (N := 17) hx hb hG in_Site hown hK hP 0 rfl rfl 7 (by decide) (hG _ m_69) (fun _ h9 => h9) rfl d_Site_addCut_21 ?_
  refine lv_aload_n hx hb d_Site_addCut_24 rfl (lv_at hl 0 rfl) ?_
  refine va_get (D := (dC, dI)) (ci := 2) (v := .int (nI VS0)) (C := R_Site) (T := T_Site) (N := 17) hx hb hG in_Site hown hK hP 0 rfl rfl 0 (by decide) (hG _ m_56) (fun _ h9 => h9) rfl d_Site_addCut_25 ?_
  refine lv_iload hx hb d_Site_addCut_28 (lv_at hl 3 rfl) ?_
  refine hw_nast (g := NS1) hx hb hK hP hD hS 4 0 rfl rfl (by decide) (by omega) d_Site_addCut_30 (fun H locs hP hD hS => ?_)
  have hP : va_P (dC, dI) vwCl (w_S cI cJ cZ aS VS0 VS1 VS2 (va_up NS0 VS0 x3) (va_up NS1 VS0 x4) NS2 (vp_updL LS0 VS0 x1) LS1 LS2 LS3 LS4 LS5 LS6 LS7 LS8 IS0 aY ++ w_Y cI cJ cZ aY VY0 LY0 LY1 LY2 IY0) H := hP
  have hD : va_D A (w_S cI cJ cZ aS VS0 VS1 VS2 (va_up NS0 VS0 x3) (va_up NS1 VS0 x4) NS2 (vp_updL LS0 VS0 x1) LS1 LS2 LS3 LS4 LS5 LS6 LS7 LS8 IS0 aY ++ w_Y cI cJ cZ aY VY0 LY0 LY1 LY2 IY0) := hD
  refine lv_aload_n hx hb d_Site_addCut_31 rfl (lv_at hl 0 rfl) ?_
  refine va_get (D := (dC, dI)) (ci := 2) (v := .ref (aS 2)) (C := R_Site) (T := T_Site) (N := 17) hx hb hG in_Site hown hK hP 0 rfl rfl 5 (by decide) (hG _ m_67) (fun _ h9 => h9) rfl d_Site_addCut_32 ?_
  refine lv_aload_n hx hb d_Site_addCut_35 rfl (lv_at hl 0 rfl) ?_
  refine va_get (D := (dC, dI)) (ci := 2) (v := .int (nI VS0)) (C := R_Site) (T := T_Site) (N := 17) hx hb hG in_Site hown hK hP 0 rfl rfl 0 (by decide) (hG _ m_56) (fun _ h9 => h9) rfl d_Site_addCut_36 ?_
  refine lv_lload hx hb d_Site_addCut_39 (lv_at hl 4 rfl) ?_
  refine hw_last (f := LS1) hx hb hK hP hD hS 2 1 rfl rfl (by decide) (by omega) d_Site_addCut_41 (fun H locs hP hD hS => ?_)
  have hP : va_P (dC, dI) vwCl (w_S cI cJ cZ aS VS0 VS1 VS2 (va_up NS0 VS0 x3) (va_up NS1 VS0 x4) NS2 (vp_updL LS0 VS0 x1) (vp_updL LS1 VS0 x5) LS2 LS3 LS4 LS5 LS6 LS7 LS8 IS0 aY ++ w_Y cI cJ cZ aY VY0 LY0 LY1 LY2 IY0) H := hP
  have hD : va_D A (w_S cI cJ cZ aS VS0 VS1 VS2 (va_up NS0 VS0 x3) (va_up NS1 VS0 x4) NS2 (vp_updL LS0 VS0 x1) (vp_updL LS1 VS0 x5) LS2 LS3 LS4 LS5 LS6 LS7 LS8 IS0 aY ++ w_Y cI cJ cZ aY VY0 LY0 LY1 LY2 IY0) := hD
  refine lv_aload_n hx hb d_Site_addCut_42 rfl (lv_at hl 0 rfl) ?_
  refine lv_dup hx hb d_Site_addCut_43 rfl ?_
  refine va_get (D := (dC, dI)) (ci := 2) (v := .int (nI VS0)) (C := R_Site) (T := T_Site) (N := 17) hx hb hG in_Site hown hK hP 0 rfl rfl 0 (by decide) (hG _ m_56) (fun _ h9 => h9) rfl d_Site_addCut_44 ?_
  refine lv_iconst (v := nI 1) hx hb d_Site_addCut_47 (by decide) ?_
  refine hw_iadd hx hb d_Site_addCut_48 ?_
  refine va_put (D := (dC, dI)) (ci := 2) (v := .int (nI (VS0 + 1))) (ty := .int) (C := R_Site) (T := T_Site) (N := 17) hx hb hG in_Site ty_Site tok_Site nok_Site hown hK hP hD hS 0 rfl rfl 0 (by decide) (hG _ m_56) (fun _ h9 => h9) rfl (by decide +kernel) rfl rfl (Nat.le_of_ble_eq_true rfl) d_Site_addCut_49 (fun H locs hP hD hS => ?_)
  have hP : va_P (dC, dI) vwCl (w_S cI cJ cZ aS (VS0 + 1) VS1 VS2 (va_up NS0 VS0 x3) (va_up NS1 VS0 x4) NS2 (vp_updL LS0 VS0 x1) (vp_updL LS1 VS0 x5) LS2 LS3 LS4 LS5 LS6 LS7 LS8 IS0 aY ++ w_Y cI cJ cZ aY VY0 LY0 LY1 LY2 IY0) H := hP
  have hD : va_D A (w_S cI cJ cZ aS (VS0 + 1) VS1 VS2 (va_up NS0 VS0 x3) (va_up NS1 VS0 x4) NS2 (vp_updL LS0 VS0 x1) (vp_updL LS1 VS0 x5) LS2 LS3 LS4 LS5 LS6 LS7 LS8 IS0 aY ++ w_Y cI cJ cZ aY VY0 LY0 LY1 LY2 IY0) := hD
  refine lv_aload_n hx hb d_Site_addCut_52 rfl (lv_at hl 0 rfl) ?_
  refine va_get (D := (dC, dI)) (ci := 2) (v := .int (nI (VS0 + 1))) (C := R_Site) (T := T_Site) (N := 17) hx hb hG in_Site hown hK hP 0 rfl rfl 0 (by decide) (hG _ m_56) (fun _ h9 => h9) rfl d_Site_addCut_53 ?_
  refine lv_iconst (v := nI 1) hx hb d_Site_addCut_56 (by decide) ?_
  refine hw_isub hx hb d_Site_addCut_57 (by omega) ?_
  subst hR
  exact W.iret (v := nI ((VS0 + 1) - 1)) hx hb hr (fun t ht hW => ⟨⟨_, (), rfl, rfl, by rw [ht]; exact hP, va_K.moved hW.alike hK, hD⟩, hS.F ht⟩) hS.2.2 d_Site_addCut_58
def f_Site_addFill (VS2 : Nat) (NS2 : Nat → Nat) (LS4 : Nat → Int64) (LS5 : Nat → Int64) (x1 : Int64) (x3 : Nat) (x4 : Int64) : Nat × (Nat) × (Nat → Nat) × (Nat → Int64) × (Nat → Int64) :=
  ((VS2 + 1) - 1, VS2 + 1, va_up NS2 VS2 x3, vp_updL LS4 VS2 x1, vp_updL LS5 VS2 x4)
set_option maxHeartbeats 4000000 in
set_option maxRecDepth 100000 in
theorem c_Site_addFill (l : Launch) (dC : Nat → ClassId) (dI : Nat → Nat → Nat) (cI cJ cZ : ClassId) (sz : Nat) (aS : Nat → Nat) (VS0 : Nat) (VS1 : Nat) (VS2 : Nat) (NS0 : Nat → Nat) (NS1 : Nat → Nat) (NS2 : Nat → Nat) (LS0 : Nat → Int64) (LS1 : Nat → Int64) (LS2 : Nat → Int64) (LS3 : Nat → Int64) (LS4 : Nat → Int64) (LS5 : Nat → Int64) (LS6 : Nat → Int64) (LS7 : Nat → Int64) (LS8 : Nat → Int64) (IS0 : Nat → Int32) (aY : Nat → Nat) (VY0 : Nat) (LY0 : Nat → Int64) (LY1 : Nat → Int64) (LY2 : Nat → Int64) (IY0 : Nat → Int32) (x1 : Int64) (x3 : Nat) (x4 : Int64) (hf7 : VS2 < 8) : hh_Ci l y_Site_addFill u_Site_addFill ({ frames := 0, cells := 0, slots := 0, locals := 0 }) (dC, dI) vwCl [(cI, .int), (cJ, .long), (cZ, .boolean)] (w_S cI cJ cZ aS VS0 VS1 VS2 NS0 NS1 NS2 LS0 LS1 LS2 LS3 LS4 LS5 LS6 LS7 LS8 IS0 aY ++ w_Y cI cJ cZ aY VY0 LY0 LY1 LY2 IY0) sz [.ref (aS 0), .long x1, .int (nI x3), .long x4] (nI ((f_Site_addFill VS2 NS2 LS4 LS5 x1 x3 x4).1)) (w_S cI cJ cZ aS VS0 VS1 ((f_Site_addFill VS2 NS2 LS4 LS5 x1 x3 x4).2.1) NS0 NS1 ((f_Site_addFill VS2 NS2 LS4 LS5 x1 x3 x4).2.2.1) LS0 LS1 LS2 LS3 ((f_Site_addFill VS2 NS2 LS4 LS5 x1 x3 x4).2.2.2.1) ((f_Site_addFill VS2 NS2 LS4 LS5 x1 x3 x4).2.2.2.2) LS6 LS7 LS8 IS0 aY ++ w_Y cI cJ cZ aY VY0 LY0 LY1 LY2 IY0) 0 0 := by
  unfold hh_Ci
  refine Met.ofW (cc := b_Site_addFill) (maxL := 6) (ret := (some .int)) (by decide) rfl ?_
  intro p e s m args below meth c s₁ B hml hv
  obtain ⟨rfl, hsz, hP, hK, hD0⟩ := hv
  have hx := B.exec
  have hb := B.bytes
  have hr := B.returns
  have hts := atoms_spec (ws := u_Site_addFill) B.pre
  have hG : ∀ w ∈ wG, w.before ([.ref (aS 0), .long x1, .int (nI x3), .long x4]).toArray s = true := fun w h => hts w (List.mem_cons_of_mem _ h)
  have hown : s.vm.findClass R_Site = some m.cls := findClass_of_methodNamed B.named
  have hlocks := B.notSynchronized
  subst hsz
  have hD := hD0.self (sz := s.heap.size)
  generalize hAe : va_A (w_S cI cJ cZ aS VS0 VS1 VS2 NS0 NS1 NS2 LS0 LS1 LS2 LS3 LS4 LS5 LS6 LS7 LS8 IS0 aY ++ w_Y cI cJ cZ aY VY0 LY0 LY1 LY2 IY0) s.heap.size = A at hD ⊢
  have hA : ∀ q : Nat, s.heap.size ≤ q → A q := fun q h => by rw [← hAe]; exact Or.inr h
  have hS : va_S A s.heap s.heap [] := va_S.rf
  have hl := lv_entry ([.ref (aS 0), .long x1, .int (nI x3), .long x4]) (n := 6) (Nat.le_of_ble_eq_true rfl)
  rw [lg_entry_eq]
  generalize (lg_sl ([.ref (aS 0), .long x1, .int (nI x3), .long x4]) ++ List.replicate (6 - (lg_sl ([.ref (aS 0), .long x1, .int (nI x3), .long x4])).length) Slot.unset).toArray = ls at hl ⊢
  have hl : lv_has ls 6 [(0, .ref (aS 0)), (1, .long x1), (3, .int (nI x3)), (4, .long x4)] := hl
  generalize hR : f_Site_addFill VS2 NS2 LS4 LS5 x1 x3 x4 = r0
  obtain ⟨H, locs, hHe, hle⟩ : ∃ (H : Heap) (locs : List Loc), s.heap = H ∧ [] = locs := ⟨_, _, rfl, rfl⟩
  have hP : va_P (dC, dI) vwCl (w_S cI cJ cZ aS VS0 VS1 VS2 NS0 NS1 NS2 LS0 LS1 LS2 LS3 LS4 LS5 LS6 LS7 LS8 IS0 aY ++ w_Y cI cJ cZ aY VY0 LY0 LY1 LY2 IY0) H := by rw [← hHe]; exact hP
  have hS : va_S A s.heap H locs := by rw [← hHe, ← hle]; exact hS
  refine hw_start hHe hle ?_
  unfold f_Site_addFill at hR
  refine lv_aload_n hx hb d_Site_addFill_0 rfl (lv_at hl 0 rfl) ?_
  refine va_get (D := (dC, dI)) (ci := 2) (v := .ref (aS 7)) (C := R_Site) (T := T_Site) (N := 17) hx hb hG in_Site hown hK hP 0 rfl rfl 10 (by decide) (hG _ m_72) (fun _ h9 => h9) rfl d_Site_addFill_1 ?_
  refine lv_aload_n hx hb d_Site_addFill_4 rfl (lv_at hl 0 rfl) ?_
  refine va_get (D := (dC, dI)) (ci := 2) (v := .int (nI VS2)) (C := R_Site) (T := T_Site) (N := 17) hx hb hG in_Site hown hK hP 0 rfl rfl 2 (by decide) (hG _ m_61) (fun _ h9 => h9) rfl d_Site_addFill_5 ?_
  refine lv_lload_n hx hb d_Site_addFill_8 rfl (lv_at hl 1 rfl) ?_
  refine hw_last (f := LS4) hx hb hK hP hD hS 7 1 rfl rfl (by decide) (by omega) d_Site_addFill_9 (fun H locs hP hD hS => ?_)
  have hP : va_P (dC, dI) vwCl (w_S cI cJ cZ aS VS0 VS1 VS2 NS0 NS1 NS2 LS0 LS1 LS2 LS3 (vp_updL LS4 VS2 x1) LS5 LS6 LS7 LS8 IS0 aY ++ w_Y cI cJ cZ aY VY0 LY0 LY1 LY2 IY0) H := hP
  have hD : va_D A (w_S cI cJ cZ aS VS0 VS1 VS2 NS0 NS1 NS2 LS0 LS1 LS2 LS3 (vp_updL LS4 VS2 x1) LS5 LS6 LS7 LS8 IS0 aY ++ w_Y cI cJ cZ aY VY0 LY0 LY1 LY2 IY0) := hD
  refine lv_aload_n hx hb d_Site_addFill_10 rfl (lv_at hl 0 rfl) ?_
  refine va_get (D := (dC, dI)) (ci := 2) (v := .ref (aS 9)) (C := R_Site) (T := T_Site) (N := 17) hx hb hG in_Site hown hK hP 0 rfl rfl 12 (by decide) (hG _ m_78) (fun _ h9 => h9) rfl d_Site_addFill_11 ?_
  refine lv_aload_n hx hb d_Site_addFill_14 rfl (lv_at hl 0 rfl) ?_
  refine va_get (D := (dC, dI)) (ci := 2) (v := .int (nI VS2)) (C := R_Site) (T := T_Site) (N := 17) hx hb hG in_Site hown hK hP 0 rfl rfl 2 (by decide) (hG _ m_61) (fun _ h9 => h9) rfl d_Site_addFill_15 ?_
  refine lv_iload_n hx hb d_Site_addFill_18 rfl (lv_at hl 2 rfl) ?_
  refine hw_nast (g := NS2) hx hb hK hP hD hS 9 0 rfl rfl (by decide) (by omega) d_Site_addFill_19 (fun H locs hP hD hS => ?_)
  have hP : va_P (dC, dI) vwCl (w_S cI cJ cZ aS VS0 VS1 VS2 NS0 NS1 (va_up NS2 VS2 x3) LS0 LS1 LS2 LS3 (vp_updL LS4 VS2 x1) LS5 LS6 LS7 LS8 IS0 aY ++ w_Y cI cJ cZ aY VY0 LY0 LY1 LY2 IY0) H := hP
  have hD : va_D A (w_S cI cJ cZ aS VS0 VS1 VS2 NS0 NS1 (va_up NS2 VS2 x3) LS0 LS1 LS2 LS3 (vp_updL LS4 VS2 x1) LS5 LS6 LS7 LS8 IS0 aY ++ w_Y cI cJ cZ aY VY0 LY0 LY1 LY2 IY0) := hD
  refine lv_aload_n hx hb d_Site_addFill_20 rfl (lv_at hl 0 rfl) ?_
  refine va_get (D := (dC, dI)) (ci := 2) (v := .ref (aS 8)) (C := R_Site) (T := T_Site) (N := 17) hx hb hG in_Site hown hK hP 0 rfl rfl 11 (by decide) (hG _ m_76) (fun _ h9 => h9) rfl d_Site_addFill_21 ?_
  refine lv_aload_n hx hb d_Site_addFill_24 rfl (lv_at hl 0 rfl) ?_
  refine va_get (D := (dC, dI)) (ci := 2) (v := .int (nI VS2)) (C := R_Site) (T := T_Site) (N := 17) hx hb hG in_Site hown hK hP 0 rfl rfl 2 (by decide) (hG _ m_61) (fun _ h9 => h9) rfl d_Site_addFill_25 ?_
  refine lv_lload hx hb d_Site_addFill_28 (lv_at hl 3 rfl) ?_
  refine hw_last (f := LS5) hx hb hK hP hD hS 8 1 rfl rfl (by decide) (by omega) d_Site_addFill_30 (fun H locs hP hD hS => ?_)
  have hP : va_P (dC, dI) vwCl (w_S cI cJ cZ aS VS0 VS1 VS2 NS0 NS1 (va_up NS2 VS2 x3) LS0 LS1 LS2 LS3 (vp_updL LS4 VS2 x1) (vp_updL LS5 VS2 x4) LS6 LS7 LS8 IS0 aY ++ w_Y cI cJ cZ aY VY0 LY0 LY1 LY2 IY0) H := hP
  have hD : va_D A (w_S cI cJ cZ aS VS0 VS1 VS2 NS0 NS1 (va_up NS2 VS2 x3) LS0 LS1 LS2 LS3 (vp_updL LS4 VS2 x1) (vp_updL LS5 VS2 x4) LS6 LS7 LS8 IS0 aY ++ w_Y cI cJ cZ aY VY0 LY0 LY1 LY2 IY0) := hD
  refine lv_aload_n hx hb d_Site_addFill_31 rfl (lv_at hl 0 rfl) ?_
  refine lv_dup hx hb d_Site_addFill_32 rfl ?_
  refine va_get (D := (dC, dI)) (ci := 2) (v := .int (nI VS2)) (C := R_Site) (T := T_Site) (N := 17) hx hb hG in_Site hown hK hP 0 rfl rfl 2 (by decide) (hG _ m_61) (fun _ h9 => h9) rfl d_Site_addFill_33 ?_
  refine lv_iconst (v := nI 1) hx hb d_Site_addFill_36 (by decide) ?_
  refine hw_iadd hx hb d_Site_addFill_37 ?_
  refine va_put (D := (dC, dI)) (ci := 2) (v := .int (nI (VS2 + 1))) (ty := .int) (C := R_Site) (T := T_Site) (N := 17) hx hb hG in_Site ty_Site tok_Site nok_Site hown hK hP hD hS 0 rfl rfl 2 (by decide) (hG _ m_61) (fun _ h9 => h9) rfl (by decide +kernel) rfl rfl (Nat.le_of_ble_eq_true rfl) d_Site_addFill_38 (fun H locs hP hD hS => ?_)
  have hP : va_P (dC, dI) vwCl (w_S cI cJ cZ aS VS0 VS1 (VS2 + 1) NS0 NS1 (va_up NS2 VS2 x3) LS0 LS1 LS2 LS3 (vp_updL LS4 VS2 x1) (vp_updL LS5 VS2 x4) LS6 LS7 LS8 IS0 aY ++ w_Y cI cJ cZ aY VY0 LY0 LY1 LY2 IY0) H := hP
  have hD : va_D A (w_S cI cJ cZ aS VS0 VS1 (VS2 + 1) NS0 NS1 (va_up NS2 VS2 x3) LS0 LS1 LS2 LS3 (vp_updL LS4 VS2 x1) (vp_updL LS5 VS2 x4) LS6 LS7 LS8 IS0 aY ++ w_Y cI cJ cZ aY VY0 LY0 LY1 LY2 IY0) := hD
  refine lv_aload_n hx hb d_Site_addFill_41 rfl (lv_at hl 0 rfl) ?_
  refine va_get (D := (dC, dI)) (ci := 2) (v := .int (nI (VS2 + 1))) (C := R_Site) (T := T_Site) (N := 17) hx hb hG in_Site hown hK hP 0 rfl rfl 2 (by decide) (hG _ m_61) (fun _ h9 => h9) rfl d_Site_addFill_42 ?_
  refine lv_iconst (v := nI 1) hx hb d_Site_addFill_45 (by decide) ?_
  refine hw_isub hx hb d_Site_addFill_46 (by omega) ?_
  subst hR
  exact W.iret (v := nI ((VS2 + 1) - 1)) hx hb hr (fun t ht hW => ⟨⟨_, (), rfl, rfl, by rw [ht]; exact hP, va_K.moved hW.alike hK, hD⟩, hS.F ht⟩) hS.2.2 d_Site_addFill_47
def f_Site_addPit (VS1 : Nat) (LS2 : Nat → Int64) (LS3 : Nat → Int64) (x1 : Int64) (x3 : Int64) : Nat × (Nat) × (Nat → Int64) × (Nat → Int64) :=
  ((VS1 + 1) - 1, VS1 + 1, vp_updL LS2 VS1 x1, vp_updL LS3 VS1 x3)
set_option maxHeartbeats 4000000 in
set_option maxRecDepth 100000 in
theorem c_Site_addPit (l : Launch) (dC : Nat → ClassId) (dI : Nat → Nat → Nat) (cI cJ cZ : ClassId) (sz : Nat) (aS : Nat → Nat) (VS0 : Nat) (VS1 : Nat) (VS2 : Nat) (NS0 : Nat → Nat) (NS1 : Nat → Nat) (NS2 : Nat → Nat) (LS0 : Nat → Int64) (LS1 : Nat → Int64) (LS2 : Nat → Int64) (LS3 : Nat → Int64) (LS4 : Nat → Int64) (LS5 : Nat → Int64) (LS6 : Nat → Int64) (LS7 : Nat → Int64) (LS8 : Nat → Int64) (IS0 : Nat → Int32) (aY : Nat → Nat) (VY0 : Nat) (LY0 : Nat → Int64) (LY1 : Nat → Int64) (LY2 : Nat → Int64) (IY0 : Nat → Int32) (x1 : Int64) (x3 : Int64) (hp3 : VS1 < 4) : hh_Ci l y_Site_addPit u_Site_addPit ({ frames := 0, cells := 0, slots := 0, locals := 0 }) (dC, dI) vwCl [(cI, .int), (cJ, .long), (cZ, .boolean)] (w_S cI cJ cZ aS VS0 VS1 VS2 NS0 NS1 NS2 LS0 LS1 LS2 LS3 LS4 LS5 LS6 LS7 LS8 IS0 aY ++ w_Y cI cJ cZ aY VY0 LY0 LY1 LY2 IY0) sz [.ref (aS 0), .long x1, .long x3] (nI ((f_Site_addPit VS1 LS2 LS3 x1 x3).1)) (w_S cI cJ cZ aS VS0 ((f_Site_addPit VS1 LS2 LS3 x1 x3).2.1) VS2 NS0 NS1 NS2 LS0 LS1 ((f_Site_addPit VS1 LS2 LS3 x1 x3).2.2.1) ((f_Site_addPit VS1 LS2 LS3 x1 x3).2.2.2) LS4 LS5 LS6 LS7 LS8 IS0 aY ++ w_Y cI cJ cZ aY VY0 LY0 LY1 LY2 IY0) 0 0 := by
  unfold hh_Ci
  refine Met.ofW (cc := b_Site_addPit) (maxL := 5) (ret := (some .int)) (by decide) rfl ?_
  intro p e s m args below meth c s₁ B hml hv
  obtain ⟨rfl, hsz, hP, hK, hD0⟩ := hv
  have hx := B.exec
  have hb := B.bytes
  have hr := B.returns
  have hts := atoms_spec (ws := u_Site_addPit) B.pre
  have hG : ∀ w ∈ wG, w.before ([.ref (aS 0), .long x1, .long x3]).toArray s = true := fun w h => hts w (List.mem_cons_of_mem _ h)
  have hown : s.vm.findClass R_Site = some m.cls := findClass_of_methodNamed B.named
  have hlocks := B.notSynchronized
  subst hsz
  have hD := hD0.self (sz := s.heap.size)
  generalize hAe : va_A (w_S cI cJ cZ aS VS0 VS1 VS2 NS0 NS1 NS2 LS0 LS1 LS2 LS3 LS4 LS5 LS6 LS7 LS8 IS0 aY ++ w_Y cI cJ cZ aY VY0 LY0 LY1 LY2 IY0) s.heap.size = A at hD ⊢
  have hA : ∀ q : Nat, s.heap.size ≤ q → A q := fun q h => by rw [← hAe]; exact Or.inr h
  have hS : va_S A s.heap s.heap [] := va_S.rf
  have hl := lv_entry ([.ref (aS 0), .long x1, .long x3]) (n := 5) (Nat.le_of_ble_eq_true rfl)
  rw [lg_entry_eq]
  generalize (lg_sl ([.ref (aS 0), .long x1, .long x3]) ++ List.replicate (5 - (lg_sl ([.ref (aS 0), .long x1, .long x3])).length) Slot.unset).toArray = ls at hl ⊢
  have hl : lv_has ls 5 [(0, .ref (aS 0)), (1, .long x1), (3, .long x3)] := hl
  generalize hR : f_Site_addPit VS1 LS2 LS3 x1 x3 = r0
  obtain ⟨H, locs, hHe, hle⟩ : ∃ (H : Heap) (locs : List Loc), s.heap = H ∧ [] = locs := ⟨_, _, rfl, rfl⟩
  have hP : va_P (dC, dI) vwCl (w_S cI cJ cZ aS VS0 VS1 VS2 NS0 NS1 NS2 LS0 LS1 LS2 LS3 LS4 LS5 LS6 LS7 LS8 IS0 aY ++ w_Y cI cJ cZ aY VY0 LY0 LY1 LY2 IY0) H := by rw [← hHe]; exact hP
  have hS : va_S A s.heap H locs := by rw [← hHe, ← hle]; exact hS
  refine hw_start hHe hle ?_
  unfold f_Site_addPit at hR
  refine lv_aload_n hx hb d_Site_addPit_0 rfl (lv_at hl 0 rfl) ?_
  refine va_get (D := (dC, dI)) (ci := 2) (v := .ref (aS 5)) (C := R_Site) (T := T_Site) (N := 17) hx hb hG in_Site hown hK hP 0 rfl rfl 8 (by decide) (hG _ m_70) (fun _ h9 => h9) rfl d_Site_addPit_1 ?_
  refine lv_aload_n hx hb d_Site_addPit_4 rfl (lv_at hl 0 rfl) ?_
  refine va_get (D := (dC, dI)) (ci := 2) (v := .int (nI VS1)) (C := R_Site) (T := T_Site) (N := 17) hx hb hG in_Site hown hK hP 0 rfl rfl 1 (by decide) (hG _ m_58) (fun _ h9 => h9) rfl d_Site_addPit_5 ?_
  refine lv_lload_n hx hb d_Site_addPit_8 rfl (lv_at hl 1 rfl) ?_
  refine hw_last (f := LS2) hx hb hK hP hD hS 5 1 rfl rfl (by decide) (by omega) d_Site_addPit_9 (fun H locs hP hD hS => ?_)
  have hP : va_P (dC, dI) vwCl (w_S cI cJ cZ aS VS0 VS1 VS2 NS0 NS1 NS2 LS0 LS1 (vp_updL LS2 VS1 x1) LS3 LS4 LS5 LS6 LS7 LS8 IS0 aY ++ w_Y cI cJ cZ aY VY0 LY0 LY1 LY2 IY0) H := hP
  have hD : va_D A (w_S cI cJ cZ aS VS0 VS1 VS2 NS0 NS1 NS2 LS0 LS1 (vp_updL LS2 VS1 x1) LS3 LS4 LS5 LS6 LS7 LS8 IS0 aY ++ w_Y cI cJ cZ aY VY0 LY0 LY1 LY2 IY0) := hD
  refine lv_aload_n hx hb d_Site_addPit_10 rfl (lv_at hl 0 rfl) ?_
  refine va_get (D := (dC, dI)) (ci := 2) (v := .ref (aS 6)) (C := R_Site) (T := T_Site) (N := 17) hx hb hG in_Site hown hK hP 0 rfl rfl 9 (by decide) (hG _ m_71) (fun _ h9 => h9) rfl d_Site_addPit_11 ?_
  refine lv_aload_n hx hb d_Site_addPit_14 rfl (lv_at hl 0 rfl) ?_
  refine va_get (D := (dC, dI)) (ci := 2) (v := .int (nI VS1)) (C := R_Site) (T := T_Site) (N := 17) hx hb hG in_Site hown hK hP 0 rfl rfl 1 (by decide) (hG _ m_58) (fun _ h9 => h9) rfl d_Site_addPit_15 ?_
  refine lv_lload_n hx hb d_Site_addPit_18 rfl (lv_at hl 2 rfl) ?_
  refine hw_last (f := LS3) hx hb hK hP hD hS 6 1 rfl rfl (by decide) (by omega) d_Site_addPit_19 (fun H locs hP hD hS => ?_)
  have hP : va_P (dC, dI) vwCl (w_S cI cJ cZ aS VS0 VS1 VS2 NS0 NS1 NS2 LS0 LS1 (vp_updL LS2 VS1 x1) (vp_updL LS3 VS1 x3) LS4 LS5 LS6 LS7 LS8 IS0 aY ++ w_Y cI cJ cZ aY VY0 LY0 LY1 LY2 IY0) H := hP
  have hD : va_D A (w_S cI cJ cZ aS VS0 VS1 VS2 NS0 NS1 NS2 LS0 LS1 (vp_updL LS2 VS1 x1) (vp_updL LS3 VS1 x3) LS4 LS5 LS6 LS7 LS8 IS0 aY ++ w_Y cI cJ cZ aY VY0 LY0 LY1 LY2 IY0) := hD
  refine lv_aload_n hx hb d_Site_addPit_20 rfl (lv_at hl 0 rfl) ?_
  refine lv_dup hx hb d_Site_addPit_21 rfl ?_
  refine va_get (D := (dC, dI)) (ci := 2) (v := .int (nI VS1)) (C := R_Site) (T := T_Site) (N := 17) hx hb hG in_Site hown hK hP 0 rfl rfl 1 (by decide) (hG _ m_58) (fun _ h9 => h9) rfl d_Site_addPit_22 ?_
  refine lv_iconst (v := nI 1) hx hb d_Site_addPit_25 (by decide) ?_
  refine hw_iadd hx hb d_Site_addPit_26 ?_
  refine va_put (D := (dC, dI)) (ci := 2) (v := .int (nI (VS1 + 1))) (ty := .int) (C := R_Site) (T := T_Site) (N := 17) hx hb hG in_Site ty_Site tok_Site nok_Site hown hK hP hD hS 0 rfl rfl 1 (by decide) (hG _ m_58) (fun _ h9 => h9) rfl (by decide +kernel) rfl rfl (Nat.le_of_ble_eq_true rfl) d_Site_addPit_27 (fun H locs hP hD hS => ?_)
  have hP : va_P (dC, dI) vwCl (w_S cI cJ cZ aS VS0 (VS1 + 1) VS2 NS0 NS1 NS2 LS0 LS1 (vp_updL LS2 VS1 x1) (vp_updL LS3 VS1 x3) LS4 LS5 LS6 LS7 LS8 IS0 aY ++ w_Y cI cJ cZ aY VY0 LY0 LY1 LY2 IY0) H := hP
  have hD : va_D A (w_S cI cJ cZ aS VS0 (VS1 + 1) VS2 NS0 NS1 NS2 LS0 LS1 (vp_updL LS2 VS1 x1) (vp_updL LS3 VS1 x3) LS4 LS5 LS6 LS7 LS8 IS0 aY ++ w_Y cI cJ cZ aY VY0 LY0 LY1 LY2 IY0) := hD
  refine lv_aload_n hx hb d_Site_addPit_30 rfl (lv_at hl 0 rfl) ?_
  refine va_get (D := (dC, dI)) (ci := 2) (v := .int (nI (VS1 + 1))) (C := R_Site) (T := T_Site) (N := 17) hx hb hG in_Site hown hK hP 0 rfl rfl 1 (by decide) (hG _ m_58) (fun _ h9 => h9) rfl d_Site_addPit_31 ?_
  refine lv_iconst (v := nI 1) hx hb d_Site_addPit_34 (by decide) ?_
  refine hw_isub hx hb d_Site_addPit_35 (by omega) ?_
  subst hR
  exact W.iret (v := nI ((VS1 + 1) - 1)) hx hb hr (fun t ht hW => ⟨⟨_, (), rfl, rfl, by rw [ht]; exact hP, va_K.moved hW.alike hK, hD⟩, hS.F ht⟩) hS.2.2 d_Site_addPit_36
def f_Site_setFit (IS0 : Nat → Int32) (x1 : Nat) (x2 : Nat) (x3 : Int32) : (Nat → Int32) :=
  if x3 = 0 then (upd IS0 x1 ((IS0 x1) ||| ((nI 1) <<< ((nI x2) &&& 31)))) else (upd IS0 x1 ((IS0 x1) &&& (((nI 1) <<< ((nI x2) &&& 31)) ^^^ (-1))))
set_option maxHeartbeats 4000000 in
set_option maxRecDepth 100000 in
theorem c_Site_setFit (l : Launch) (dC : Nat → ClassId) (dI : Nat → Nat → Nat) (cI cJ cZ : ClassId) (sz : Nat) (aS : Nat → Nat) (VS0 : Nat) (VS1 : Nat) (VS2 : Nat) (NS0 : Nat → Nat) (NS1 : Nat → Nat) (NS2 : Nat → Nat) (LS0 : Nat → Int64) (LS1 : Nat → Int64) (LS2 : Nat → Int64) (LS3 : Nat → Int64) (LS4 : Nat → Int64) (LS5 : Nat → Int64) (LS6 : Nat → Int64) (LS7 : Nat → Int64) (LS8 : Nat → Int64) (IS0 : Nat → Int32) (aY : Nat → Nat) (VY0 : Nat) (LY0 : Nat → Int64) (LY1 : Nat → Int64) (LY2 : Nat → Int64) (IY0 : Nat → Int32) (x1 : Nat) (x2 : Nat) (x3 : Int32) (hx1 : x1 < 4) (hx2 : x2 < 8) : hh_Cv l y_Site_setFit u_Site_setFit ({ frames := 0, cells := 0, slots := 0, locals := 0 }) (dC, dI) vwCl [(cI, .int), (cJ, .long), (cZ, .boolean)] (w_S cI cJ cZ aS VS0 VS1 VS2 NS0 NS1 NS2 LS0 LS1 LS2 LS3 LS4 LS5 LS6 LS7 LS8 IS0 aY ++ w_Y cI cJ cZ aY VY0 LY0 LY1 LY2 IY0) sz [.ref (aS 0), .int (nI x1), .int (nI x2), .int x3] (w_S cI cJ cZ aS VS0 VS1 VS2 NS0 NS1 NS2 LS0 LS1 LS2 LS3 LS4 LS5 LS6 LS7 LS8 (f_Site_setFit IS0 x1 x2 x3) aY ++ w_Y cI cJ cZ aY VY0 LY0 LY1 LY2 IY0) 0 0 := by
  unfold hh_Cv
  refine Met.ofW (cc := b_Site_setFit) (maxL := 4) (ret := none) (by decide) rfl ?_
  intro p e s m args below meth c s₁ B hml hv
  obtain ⟨rfl, hsz, hP, hK, hD0⟩ := hv
  have hx := B.exec
  have hb := B.bytes
  have hr := B.returns
  have hts := atoms_spec (ws := u_Site_setFit) B.pre
  have hG : ∀ w ∈ wG, w.before ([.ref (aS 0), .int (nI x1), .int (nI x2), .int x3]).toArray s = true := fun w h => hts w (List.mem_cons_of_mem _ h)
  have hown : s.vm.findClass R_Site = some m.cls := findClass_of_methodNamed B.named
  have hlocks := B.notSynchronized
  subst hsz
  have hD := hD0.self (sz := s.heap.size)
  generalize hAe : va_A (w_S cI cJ cZ aS VS0 VS1 VS2 NS0 NS1 NS2 LS0 LS1 LS2 LS3 LS4 LS5 LS6 LS7 LS8 IS0 aY ++ w_Y cI cJ cZ aY VY0 LY0 LY1 LY2 IY0) s.heap.size = A at hD ⊢
  have hA : ∀ q : Nat, s.heap.size ≤ q → A q := fun q h => by rw [← hAe]; exact Or.inr h
  have hS : va_S A s.heap s.heap [] := va_S.rf
  have hl := lv_entry ([.ref (aS 0), .int (nI x1), .int (nI x2), .int x3]) (n := 4) (Nat.le_of_ble_eq_true rfl)
  rw [lg_entry_eq]
  generalize (lg_sl ([.ref (aS 0), .int (nI x1), .int (nI x2), .int x3]) ++ List.replicate (4 - (lg_sl ([.ref (aS 0), .int (nI x1), .int (nI x2), .int x3])).length) Slot.unset).toArray = ls at hl ⊢
  have hl : lv_has ls 4 [(0, .ref (aS 0)), (1, .int (nI x1)), (2, .int (nI x2)), (3, .int x3)] := hl
  generalize hR : f_Site_setFit IS0 x1 x2 x3 = r0
  obtain ⟨H, locs, hHe, hle⟩ : ∃ (H : Heap) (locs : List Loc), s.heap = H ∧ [] = locs := ⟨_, _, rfl, rfl⟩
  have hP : va_P (dC, dI) vwCl (w_S cI cJ cZ aS VS0 VS1 VS2 NS0 NS1 NS2 LS0 LS1 LS2 LS3 LS4 LS5 LS6 LS7 LS8 IS0 aY ++ w_Y cI cJ cZ aY VY0 LY0 LY1 LY2 IY0) H := by rw [← hHe]; exact hP
  have hS : va_S A s.heap H locs := by rw [← hHe, ← hle]; exact hS
  refine hw_start hHe hle ?_
  unfold f_Site_setFit at hR
  refine lv_iload_n hx hb d_Site_setFit_0 rfl (lv_at hl 3 rfl) ?_
  refine lv_if_eq (tgt := 21) hx hb d_Site_setFit_1 (by decide) (fun c1 => ?_) (fun c1 => ?_)
  · replace hR := (if_pos c1).symm.trans hR
    refine lv_aload_n hx hb d_Site_setFit_21 rfl (lv_at hl 0 rfl) ?_
    refine va_get (D := (dC, dI)) (ci := 2) (v := .ref (aS 12)) (C := R_Site) (T := T_Site) (N := 17) hx hb hG in_Site hown hK hP 0 rfl rfl 15 (by decide) (hG _ m_86) (fun _ h9 => h9) rfl d_Site_setFit_22 ?_
    refine lv_iload_n hx hb d_Site_setFit_25 rfl (lv_at hl 1 rfl) ?_
    refine lv_dup2_11 hx hb d_Site_setFit_26 rfl rfl ?_
    refine hw_iald (f := IS0) hx hb hK hP 12 0 rfl rfl (by decide) (by omega) d_Site_setFit_27 ?_
    refine lv_iconst (v := nI 1) hx hb d_Site_setFit_28 (by decide) ?_
    refine lv_iload_n hx hb d_Site_setFit_29 rfl (lv_at hl 2 rfl) ?_
    refine lv_ishl hx hb d_Site_setFit_30 ?_
    refine lv_ior hx hb d_Site_setFit_31 ?_
    refine hw_iast (f := IS0) hx hb hK hP hD hS 12 0 rfl rfl (by decide) (by omega) d_Site_setFit_32 (fun H locs hP hD hS => ?_)
    have hP : va_P (dC, dI) vwCl (w_S cI cJ cZ aS VS0 VS1 VS2 NS0 NS1 NS2 LS0 LS1 LS2 LS3 LS4 LS5 LS6 LS7 LS8 (upd IS0 x1 ((IS0 x1) ||| ((nI 1) <<< ((nI x2) &&& 31)))) aY ++ w_Y cI cJ cZ aY VY0 LY0 LY1 LY2 IY0) H := hP
    have hD : va_D A (w_S cI cJ cZ aS VS0 VS1 VS2 NS0 NS1 NS2 LS0 LS1 LS2 LS3 LS4 LS5 LS6 LS7 LS8 (upd IS0 x1 ((IS0 x1) ||| ((nI 1) <<< ((nI x2) &&& 31)))) aY ++ w_Y cI cJ cZ aY VY0 LY0 LY1 LY2 IY0) := hD
    subst hR
    exact W.vret hx hb hr (fun t ht hW => ⟨⟨(), rfl, trivial, by rw [ht]; exact hP, va_K.moved hW.alike hK, hD⟩, hS.F ht⟩) hS.2.2 d_Site_setFit_33
  · replace hR := (if_neg c1).symm.trans hR
    refine lv_aload_n hx hb d_Site_setFit_4 rfl (lv_at hl 0 rfl) ?_
    refine va_get (D := (dC, dI)) (ci := 2) (v := .ref (aS 12)) (C := R_Site) (T := T_Site) (N := 17) hx hb hG in_Site hown hK hP 0 rfl rfl 15 (by decide) (hG _ m_86) (fun _ h9 => h9) rfl d_Site_setFit_5 ?_
    refine lv_iload_n hx hb d_Site_setFit_8 rfl (lv_at hl 1 rfl) ?_
    refine lv_dup2_11 hx hb d_Site_setFit_9 rfl rfl ?_
    refine hw_iald (f := IS0) hx hb hK hP 12 0 rfl rfl (by decide) (by omega) d_Site_setFit_10 ?_
    refine lv_iconst (v := nI 1) hx hb d_Site_setFit_11 (by decide) ?_
    refine lv_iload_n hx hb d_Site_setFit_12 rfl (lv_at hl 2 rfl) ?_
    refine lv_ishl hx hb d_Site_setFit_13 ?_
    refine lv_iconst (v := (-1)) hx hb d_Site_setFit_14 (by decide) ?_
    refine lv_ixor hx hb d_Site_setFit_15 ?_
    refine lv_iand hx hb d_Site_setFit_16 ?_
    refine hw_iast (f := IS0) hx hb hK hP hD hS 12 0 rfl rfl (by decide) (by omega) d_Site_setFit_17 (fun H locs hP hD hS => ?_)
    have hP : va_P (dC, dI) vwCl (w_S cI cJ cZ aS VS0 VS1 VS2 NS0 NS1 NS2 LS0 LS1 LS2 LS3 LS4 LS5 LS6 LS7 LS8 (upd IS0 x1 ((IS0 x1) &&& (((nI 1) <<< ((nI x2) &&& 31)) ^^^ (-1)))) aY ++ w_Y cI cJ cZ aY VY0 LY0 LY1 LY2 IY0) H := hP
    have hD : va_D A (w_S cI cJ cZ aS VS0 VS1 VS2 NS0 NS1 NS2 LS0 LS1 LS2 LS3 LS4 LS5 LS6 LS7 LS8 (upd IS0 x1 ((IS0 x1) &&& (((nI 1) <<< ((nI x2) &&& 31)) ^^^ (-1)))) aY ++ w_Y cI cJ cZ aY VY0 LY0 LY1 LY2 IY0) := hD
    refine lv_goto (tgt := 33) hx hb d_Site_setFit_18 (by decide) ?_
    subst hR
    exact W.vret hx hb hr (fun t ht hW => ⟨⟨(), rfl, trivial, by rw [ht]; exact hP, va_K.moved hW.alike hK, hD⟩, hS.F ht⟩) hS.2.2 d_Site_setFit_33
