abbrev b_Plan_amount : ByteArray := prog_2_method_2_code
def y_Plan_amount : MethodName := ⟨R_Plan, "amount", "(II)J"⟩
def u_Plan_amount : List Cond := Cond.code y_Plan_amount b_Plan_amount 3 (some .long) :: wG
theorem d_Plan_amount_0 : decode b_Plan_amount 0 = .ok (.aload_n 0, 1) := by decide +kernel
theorem d_Plan_amount_1 : decode b_Plan_amount 1 = .ok (.getfield 17, 3) := by decide +kernel
theorem d_Plan_amount_4 : decode b_Plan_amount 4 = .ok (.iload_n 1, 1) := by decide +kernel
theorem d_Plan_amount_5 : decode b_Plan_amount 5 = .ok (.bipush 9, 2) := by decide +kernel
theorem d_Plan_amount_7 : decode b_Plan_amount 7 = .ok (.imul, 1) := by decide +kernel
theorem d_Plan_amount_8 : decode b_Plan_amount 8 = .ok (.iload_n 2, 1) := by decide +kernel
theorem d_Plan_amount_9 : decode b_Plan_amount 9 = .ok (.iadd, 1) := by decide +kernel
theorem d_Plan_amount_10 : decode b_Plan_amount 10 = .ok (.laload, 1) := by decide +kernel
theorem d_Plan_amount_11 : decode b_Plan_amount 11 = .ok (.lreturn, 1) := by decide +kernel
abbrev b_Plan_price : ByteArray := prog_2_method_3_code
def y_Plan_price : MethodName := ⟨R_Plan, "price", "(II)J"⟩
def u_Plan_price : List Cond := Cond.code y_Plan_price b_Plan_price 4 (some .long) :: wG
theorem d_Plan_price_0 : decode b_Plan_price 0 = .ok (.iload_n 1, 1) := by decide +kernel
theorem d_Plan_price_1 : decode b_Plan_price 1 = .ok (.bipush 9, 2) := by decide +kernel
theorem d_Plan_price_3 : decode b_Plan_price 3 = .ok (.imul, 1) := by decide +kernel
theorem d_Plan_price_4 : decode b_Plan_price 4 = .ok (.iload_n 2, 1) := by decide +kernel
theorem d_Plan_price_5 : decode b_Plan_price 5 = .ok (.iadd, 1) := by decide +kernel
theorem d_Plan_price_6 : decode b_Plan_price 6 = .ok (.istore_n 3, 1) := by decide +kernel
theorem d_Plan_price_7 : decode b_Plan_price 7 = .ok (.aload_n 0, 1) := by decide +kernel
theorem d_Plan_price_8 : decode b_Plan_price 8 = .ok (.getfield 17, 3) := by decide +kernel
theorem d_Plan_price_11 : decode b_Plan_price 11 = .ok (.iload_n 3, 1) := by decide +kernel
theorem d_Plan_price_12 : decode b_Plan_price 12 = .ok (.laload, 1) := by decide +kernel
theorem d_Plan_price_13 : decode b_Plan_price 13 = .ok (.aload_n 0, 1) := by decide +kernel
theorem d_Plan_price_14 : decode b_Plan_price 14 = .ok (.getfield 13, 3) := by decide +kernel
theorem d_Plan_price_17 : decode b_Plan_price 17 = .ok (.iload_n 3, 1) := by decide +kernel
theorem d_Plan_price_18 : decode b_Plan_price 18 = .ok (.laload, 1) := by decide +kernel
theorem d_Plan_price_19 : decode b_Plan_price 19 = .ok (.lmul, 1) := by decide +kernel
theorem d_Plan_price_20 : decode b_Plan_price 20 = .ok (.lreturn, 1) := by decide +kernel
abbrev b_Plan_totalPrice : ByteArray := prog_2_method_4_code
def y_Plan_totalPrice : MethodName := ⟨R_Plan, "totalPrice", "()J"⟩
def u_Plan_totalPrice : List Cond := Cond.code y_Plan_totalPrice b_Plan_totalPrice 5 (some .long) :: wG
theorem d_Plan_totalPrice_0 : decode b_Plan_totalPrice 0 = .ok (.lconst 0, 1) := by decide +kernel
theorem d_Plan_totalPrice_1 : decode b_Plan_totalPrice 1 = .ok (.lstore_n 1, 1) := by decide +kernel
theorem d_Plan_totalPrice_2 : decode b_Plan_totalPrice 2 = .ok (.iconst 0, 1) := by decide +kernel
theorem d_Plan_totalPrice_3 : decode b_Plan_totalPrice 3 = .ok (.istore_n 3, 1) := by decide +kernel
theorem d_Plan_totalPrice_4 : decode b_Plan_totalPrice 4 = .ok (.iload_n 3, 1) := by decide +kernel
theorem d_Plan_totalPrice_5 : decode b_Plan_totalPrice 5 = .ok (.aload_n 0, 1) := by decide +kernel
theorem d_Plan_totalPrice_6 : decode b_Plan_totalPrice 6 = .ok (.getfield 44, 3) := by decide +kernel
theorem d_Plan_totalPrice_9 : decode b_Plan_totalPrice 9 = .ok (.if_icmp .ge 37, 3) := by decide +kernel
theorem d_Plan_totalPrice_12 : decode b_Plan_totalPrice 12 = .ok (.iconst 0, 1) := by decide +kernel
theorem d_Plan_totalPrice_13 : decode b_Plan_totalPrice 13 = .ok (.istore 4, 2) := by decide +kernel
theorem d_Plan_totalPrice_15 : decode b_Plan_totalPrice 15 = .ok (.iload 4, 2) := by decide +kernel
theorem d_Plan_totalPrice_17 : decode b_Plan_totalPrice 17 = .ok (.aload_n 0, 1) := by decide +kernel
theorem d_Plan_totalPrice_18 : decode b_Plan_totalPrice 18 = .ok (.getfield 48, 3) := by decide +kernel
theorem d_Plan_totalPrice_21 : decode b_Plan_totalPrice 21 = .ok (.if_icmp .ge 19, 3) := by decide +kernel
theorem d_Plan_totalPrice_24 : decode b_Plan_totalPrice 24 = .ok (.lload_n 1, 1) := by decide +kernel
theorem d_Plan_totalPrice_25 : decode b_Plan_totalPrice 25 = .ok (.aload_n 0, 1) := by decide +kernel
theorem d_Plan_totalPrice_26 : decode b_Plan_totalPrice 26 = .ok (.iload_n 3, 1) := by decide +kernel
theorem d_Plan_totalPrice_27 : decode b_Plan_totalPrice 27 = .ok (.iload 4, 2) := by decide +kernel
theorem d_Plan_totalPrice_29 : decode b_Plan_totalPrice 29 = .ok (.invokevirtual 51, 3) := by decide +kernel
theorem d_Plan_totalPrice_32 : decode b_Plan_totalPrice 32 = .ok (.ladd, 1) := by decide +kernel
theorem d_Plan_totalPrice_33 : decode b_Plan_totalPrice 33 = .ok (.lstore_n 1, 1) := by decide +kernel
theorem d_Plan_totalPrice_34 : decode b_Plan_totalPrice 34 = .ok (.iinc 4 1, 3) := by decide +kernel
theorem d_Plan_totalPrice_37 : decode b_Plan_totalPrice 37 = .ok (.goto (-22), 3) := by decide +kernel
theorem d_Plan_totalPrice_40 : decode b_Plan_totalPrice 40 = .ok (.iinc 3 1, 3) := by decide +kernel
theorem d_Plan_totalPrice_43 : decode b_Plan_totalPrice 43 = .ok (.goto (-39), 3) := by decide +kernel
theorem d_Plan_totalPrice_46 : decode b_Plan_totalPrice 46 = .ok (.lload_n 1, 1) := by decide +kernel
theorem d_Plan_totalPrice_47 : decode b_Plan_totalPrice 47 = .ok (.lreturn, 1) := by decide +kernel
abbrev b_Plan_amountFrom : ByteArray := prog_2_method_5_code
def y_Plan_amountFrom : MethodName := ⟨R_Plan, "amountFrom", "(II)J"⟩
def u_Plan_amountFrom : List Cond := Cond.code y_Plan_amountFrom b_Plan_amountFrom 7 (some .long) :: wG
theorem d_Plan_amountFrom_0 : decode b_Plan_amountFrom 0 = .ok (.lconst 0, 1) := by decide +kernel
theorem d_Plan_amountFrom_1 : decode b_Plan_amountFrom 1 = .ok (.lstore_n 3, 1) := by decide +kernel
theorem d_Plan_amountFrom_2 : decode b_Plan_amountFrom 2 = .ok (.iload_n 1, 1) := by decide +kernel
theorem d_Plan_amountFrom_3 : decode b_Plan_amountFrom 3 = .ok (.istore 5, 2) := by decide +kernel
theorem d_Plan_amountFrom_5 : decode b_Plan_amountFrom 5 = .ok (.iload 5, 2) := by decide +kernel
theorem d_Plan_amountFrom_7 : decode b_Plan_amountFrom 7 = .ok (.iload_n 2, 1) := by decide +kernel
theorem d_Plan_amountFrom_8 : decode b_Plan_amountFrom 8 = .ok (.if_icmp .ge 38, 3) := by decide +kernel
theorem d_Plan_amountFrom_11 : decode b_Plan_amountFrom 11 = .ok (.iconst 0, 1) := by decide +kernel
theorem d_Plan_amountFrom_12 : decode b_Plan_amountFrom 12 = .ok (.istore 6, 2) := by decide +kernel
theorem d_Plan_amountFrom_14 : decode b_Plan_amountFrom 14 = .ok (.iload 6, 2) := by decide +kernel
theorem d_Plan_amountFrom_16 : decode b_Plan_amountFrom 16 = .ok (.aload_n 0, 1) := by decide +kernel
theorem d_Plan_amountFrom_17 : decode b_Plan_amountFrom 17 = .ok (.getfield 48, 3) := by decide +kernel
theorem d_Plan_amountFrom_20 : decode b_Plan_amountFrom 20 = .ok (.if_icmp .ge 20, 3) := by decide +kernel
theorem d_Plan_amountFrom_23 : decode b_Plan_amountFrom 23 = .ok (.lload_n 3, 1) := by decide +kernel
theorem d_Plan_amountFrom_24 : decode b_Plan_amountFrom 24 = .ok (.aload_n 0, 1) := by decide +kernel
theorem d_Plan_amountFrom_25 : decode b_Plan_amountFrom 25 = .ok (.iload 5, 2) := by decide +kernel
theorem d_Plan_amountFrom_27 : decode b_Plan_amountFrom 27 = .ok (.iload 6, 2) := by decide +kernel
theorem d_Plan_amountFrom_29 : decode b_Plan_amountFrom 29 = .ok (.invokevirtual 55, 3) := by decide +kernel
theorem d_Plan_amountFrom_32 : decode b_Plan_amountFrom 32 = .ok (.ladd, 1) := by decide +kernel
theorem d_Plan_amountFrom_33 : decode b_Plan_amountFrom 33 = .ok (.lstore_n 3, 1) := by decide +kernel
theorem d_Plan_amountFrom_34 : decode b_Plan_amountFrom 34 = .ok (.iinc 6 1, 3) := by decide +kernel
theorem d_Plan_amountFrom_37 : decode b_Plan_amountFrom 37 = .ok (.goto (-23), 3) := by decide +kernel
theorem d_Plan_amountFrom_40 : decode b_Plan_amountFrom 40 = .ok (.iinc 5 1, 3) := by decide +kernel
theorem d_Plan_amountFrom_43 : decode b_Plan_amountFrom 43 = .ok (.goto (-38), 3) := by decide +kernel
theorem d_Plan_amountFrom_46 : decode b_Plan_amountFrom 46 = .ok (.lload_n 3, 1) := by decide +kernel
theorem d_Plan_amountFrom_47 : decode b_Plan_amountFrom 47 = .ok (.lreturn, 1) := by decide +kernel
abbrev b_Plan_amountTo : ByteArray := prog_2_method_6_code
def y_Plan_amountTo : MethodName := ⟨R_Plan, "amountTo", "(I)J"⟩
def u_Plan_amountTo : List Cond := Cond.code y_Plan_amountTo b_Plan_amountTo 5 (some .long) :: wG
theorem d_Plan_amountTo_0 : decode b_Plan_amountTo 0 = .ok (.lconst 0, 1) := by decide +kernel
theorem d_Plan_amountTo_1 : decode b_Plan_amountTo 1 = .ok (.lstore_n 2, 1) := by decide +kernel
theorem d_Plan_amountTo_2 : decode b_Plan_amountTo 2 = .ok (.iconst 0, 1) := by decide +kernel
theorem d_Plan_amountTo_3 : decode b_Plan_amountTo 3 = .ok (.istore 4, 2) := by decide +kernel
theorem d_Plan_amountTo_5 : decode b_Plan_amountTo 5 = .ok (.iload 4, 2) := by decide +kernel
theorem d_Plan_amountTo_7 : decode b_Plan_amountTo 7 = .ok (.aload_n 0, 1) := by decide +kernel
theorem d_Plan_amountTo_8 : decode b_Plan_amountTo 8 = .ok (.getfield 44, 3) := by decide +kernel
theorem d_Plan_amountTo_11 : decode b_Plan_amountTo 11 = .ok (.if_icmp .ge 19, 3) := by decide +kernel
theorem d_Plan_amountTo_14 : decode b_Plan_amountTo 14 = .ok (.lload_n 2, 1) := by decide +kernel
theorem d_Plan_amountTo_15 : decode b_Plan_amountTo 15 = .ok (.aload_n 0, 1) := by decide +kernel
theorem d_Plan_amountTo_16 : decode b_Plan_amountTo 16 = .ok (.iload 4, 2) := by decide +kernel
theorem d_Plan_amountTo_18 : decode b_Plan_amountTo 18 = .ok (.iload_n 1, 1) := by decide +kernel
theorem d_Plan_amountTo_19 : decode b_Plan_amountTo 19 = .ok (.invokevirtual 55, 3) := by decide +kernel
theorem d_Plan_amountTo_22 : decode b_Plan_amountTo 22 = .ok (.ladd, 1) := by decide +kernel
theorem d_Plan_amountTo_23 : decode b_Plan_amountTo 23 = .ok (.lstore_n 2, 1) := by decide +kernel
theorem d_Plan_amountTo_24 : decode b_Plan_amountTo 24 = .ok (.iinc 4 1, 3) := by decide +kernel
theorem d_Plan_amountTo_27 : decode b_Plan_amountTo 27 = .ok (.goto (-22), 3) := by decide +kernel
theorem d_Plan_amountTo_30 : decode b_Plan_amountTo 30 = .ok (.lload_n 2, 1) := by decide +kernel
theorem d_Plan_amountTo_31 : decode b_Plan_amountTo 31 = .ok (.lreturn, 1) := by decide +kernel
abbrev b_Plan_amountIn : ByteArray := prog_2_method_7_code
def y_Plan_amountIn : MethodName := ⟨R_Plan, "amountIn", "(I)J"⟩
def u_Plan_amountIn : List Cond := Cond.code y_Plan_amountIn b_Plan_amountIn 5 (some .long) :: wG
theorem d_Plan_amountIn_0 : decode b_Plan_amountIn 0 = .ok (.lconst 0, 1) := by decide +kernel
theorem d_Plan_amountIn_1 : decode b_Plan_amountIn 1 = .ok (.lstore_n 2, 1) := by decide +kernel
theorem d_Plan_amountIn_2 : decode b_Plan_amountIn 2 = .ok (.iconst 0, 1) := by decide +kernel
theorem d_Plan_amountIn_3 : decode b_Plan_amountIn 3 = .ok (.istore 4, 2) := by decide +kernel
theorem d_Plan_amountIn_5 : decode b_Plan_amountIn 5 = .ok (.iload 4, 2) := by decide +kernel
theorem d_Plan_amountIn_7 : decode b_Plan_amountIn 7 = .ok (.aload_n 0, 1) := by decide +kernel
theorem d_Plan_amountIn_8 : decode b_Plan_amountIn 8 = .ok (.getfield 48, 3) := by decide +kernel
theorem d_Plan_amountIn_11 : decode b_Plan_amountIn 11 = .ok (.if_icmp .ge 32, 3) := by decide +kernel
theorem d_Plan_amountIn_14 : decode b_Plan_amountIn 14 = .ok (.aload_n 0, 1) := by decide +kernel
theorem d_Plan_amountIn_15 : decode b_Plan_amountIn 15 = .ok (.getfield 40, 3) := by decide +kernel
theorem d_Plan_amountIn_18 : decode b_Plan_amountIn 18 = .ok (.getfield 58, 3) := by decide +kernel
theorem d_Plan_amountIn_21 : decode b_Plan_amountIn 21 = .ok (.iload 4, 2) := by decide +kernel
theorem d_Plan_amountIn_23 : decode b_Plan_amountIn 23 = .ok (.iaload, 1) := by decide +kernel
theorem d_Plan_amountIn_24 : decode b_Plan_amountIn 24 = .ok (.iload_n 1, 1) := by decide +kernel
theorem d_Plan_amountIn_25 : decode b_Plan_amountIn 25 = .ok (.if_icmp .ne 12, 3) := by decide +kernel
theorem d_Plan_amountIn_28 : decode b_Plan_amountIn 28 = .ok (.lload_n 2, 1) := by decide +kernel
theorem d_Plan_amountIn_29 : decode b_Plan_amountIn 29 = .ok (.aload_n 0, 1) := by decide +kernel
theorem d_Plan_amountIn_30 : decode b_Plan_amountIn 30 = .ok (.iload 4, 2) := by decide +kernel
theorem d_Plan_amountIn_32 : decode b_Plan_amountIn 32 = .ok (.invokevirtual 63, 3) := by decide +kernel
theorem d_Plan_amountIn_35 : decode b_Plan_amountIn 35 = .ok (.ladd, 1) := by decide +kernel
theorem d_Plan_amountIn_36 : decode b_Plan_amountIn 36 = .ok (.lstore_n 2, 1) := by decide +kernel
theorem d_Plan_amountIn_37 : decode b_Plan_amountIn 37 = .ok (.iinc 4 1, 3) := by decide +kernel
theorem d_Plan_amountIn_40 : decode b_Plan_amountIn 40 = .ok (.goto (-35), 3) := by decide +kernel
theorem d_Plan_amountIn_43 : decode b_Plan_amountIn 43 = .ok (.lload_n 2, 1) := by decide +kernel
theorem d_Plan_amountIn_44 : decode b_Plan_amountIn 44 = .ok (.lreturn, 1) := by decide +kernel
abbrev b_Plan_amountAcross : ByteArray := prog_2_method_8_code
def y_Plan_amountAcross : MethodName := ⟨R_Plan, "amountAcross", "(JZ)J"⟩
def u_Plan_amountAcross : List Cond := Cond.code y_Plan_amountAcross b_Plan_amountAcross 10 (some .long) :: wG
theorem d_Plan_amountAcross_0 : decode b_Plan_amountAcross 0 = .ok (.lconst 0, 1) := by decide +kernel
theorem d_Plan_amountAcross_1 : decode b_Plan_amountAcross 1 = .ok (.lstore 4, 2) := by decide +kernel
theorem d_Plan_amountAcross_3 : decode b_Plan_amountAcross 3 = .ok (.iconst 0, 1) := by decide +kernel
theorem d_Plan_amountAcross_4 : decode b_Plan_amountAcross 4 = .ok (.istore 6, 2) := by decide +kernel
theorem d_Plan_amountAcross_6 : decode b_Plan_amountAcross 6 = .ok (.iload 6, 2) := by decide +kernel
theorem d_Plan_amountAcross_8 : decode b_Plan_amountAcross 8 = .ok (.aload_n 0, 1) := by decide +kernel
theorem d_Plan_amountAcross_9 : decode b_Plan_amountAcross 9 = .ok (.getfield 44, 3) := by decide +kernel
theorem d_Plan_amountAcross_12 : decode b_Plan_amountAcross 12 = .ok (.if_icmp .ge 95, 3) := by decide +kernel
theorem d_Plan_amountAcross_15 : decode b_Plan_amountAcross 15 = .ok (.aload_n 0, 1) := by decide +kernel
theorem d_Plan_amountAcross_16 : decode b_Plan_amountAcross 16 = .ok (.getfield 40, 3) := by decide +kernel
theorem d_Plan_amountAcross_19 : decode b_Plan_amountAcross 19 = .ok (.iload 6, 2) := by decide +kernel
theorem d_Plan_amountAcross_21 : decode b_Plan_amountAcross 21 = .ok (.invokevirtual 67, 3) := by decide +kernel
theorem d_Plan_amountAcross_24 : decode b_Plan_amountAcross 24 = .ok (.lload_n 1, 1) := by decide +kernel
theorem d_Plan_amountAcross_25 : decode b_Plan_amountAcross 25 = .ok (.lcmp, 1) := by decide +kernel
theorem d_Plan_amountAcross_26 : decode b_Plan_amountAcross 26 = .ok (.ifCond .gt 7, 3) := by decide +kernel
theorem d_Plan_amountAcross_29 : decode b_Plan_amountAcross 29 = .ok (.iconst 1, 1) := by decide +kernel
theorem d_Plan_amountAcross_30 : decode b_Plan_amountAcross 30 = .ok (.goto 4, 3) := by decide +kernel
theorem d_Plan_amountAcross_33 : decode b_Plan_amountAcross 33 = .ok (.iconst 0, 1) := by decide +kernel
theorem d_Plan_amountAcross_34 : decode b_Plan_amountAcross 34 = .ok (.istore 7, 2) := by decide +kernel
theorem d_Plan_amountAcross_36 : decode b_Plan_amountAcross 36 = .ok (.iconst 0, 1) := by decide +kernel
theorem d_Plan_amountAcross_37 : decode b_Plan_amountAcross 37 = .ok (.istore 8, 2) := by decide +kernel
theorem d_Plan_amountAcross_39 : decode b_Plan_amountAcross 39 = .ok (.iload 8, 2) := by decide +kernel
theorem d_Plan_amountAcross_41 : decode b_Plan_amountAcross 41 = .ok (.aload_n 0, 1) := by decide +kernel
theorem d_Plan_amountAcross_42 : decode b_Plan_amountAcross 42 = .ok (.getfield 48, 3) := by decide +kernel
theorem d_Plan_amountAcross_45 : decode b_Plan_amountAcross 45 = .ok (.if_icmp .ge 56, 3) := by decide +kernel
theorem d_Plan_amountAcross_48 : decode b_Plan_amountAcross 48 = .ok (.aload_n 0, 1) := by decide +kernel
theorem d_Plan_amountAcross_49 : decode b_Plan_amountAcross 49 = .ok (.getfield 40, 3) := by decide +kernel
theorem d_Plan_amountAcross_52 : decode b_Plan_amountAcross 52 = .ok (.getfield 70, 3) := by decide +kernel
theorem d_Plan_amountAcross_55 : decode b_Plan_amountAcross 55 = .ok (.iload 8, 2) := by decide +kernel
theorem d_Plan_amountAcross_57 : decode b_Plan_amountAcross 57 = .ok (.laload, 1) := by decide +kernel
theorem d_Plan_amountAcross_58 : decode b_Plan_amountAcross 58 = .ok (.lload_n 1, 1) := by decide +kernel
theorem d_Plan_amountAcross_59 : decode b_Plan_amountAcross 59 = .ok (.lcmp, 1) := by decide +kernel
theorem d_Plan_amountAcross_60 : decode b_Plan_amountAcross 60 = .ok (.ifCond .gt 7, 3) := by decide +kernel
theorem d_Plan_amountAcross_63 : decode b_Plan_amountAcross 63 = .ok (.iconst 1, 1) := by decide +kernel
theorem d_Plan_amountAcross_64 : decode b_Plan_amountAcross 64 = .ok (.goto 4, 3) := by decide +kernel
theorem d_Plan_amountAcross_67 : decode b_Plan_amountAcross 67 = .ok (.iconst 0, 1) := by decide +kernel
theorem d_Plan_amountAcross_68 : decode b_Plan_amountAcross 68 = .ok (.istore 9, 2) := by decide +kernel
theorem d_Plan_amountAcross_70 : decode b_Plan_amountAcross 70 = .ok (.iload 7, 2) := by decide +kernel
theorem d_Plan_amountAcross_72 : decode b_Plan_amountAcross 72 = .ok (.iload_n 3, 1) := by decide +kernel
theorem d_Plan_amountAcross_73 : decode b_Plan_amountAcross 73 = .ok (.if_icmp .ne 22, 3) := by decide +kernel
theorem d_Plan_amountAcross_76 : decode b_Plan_amountAcross 76 = .ok (.iload 9, 2) := by decide +kernel
theorem d_Plan_amountAcross_78 : decode b_Plan_amountAcross 78 = .ok (.iload_n 3, 1) := by decide +kernel
theorem d_Plan_amountAcross_79 : decode b_Plan_amountAcross 79 = .ok (.if_icmp .eq 16, 3) := by decide +kernel
theorem d_Plan_amountAcross_82 : decode b_Plan_amountAcross 82 = .ok (.lload 4, 2) := by decide +kernel
theorem d_Plan_amountAcross_84 : decode b_Plan_amountAcross 84 = .ok (.aload_n 0, 1) := by decide +kernel
theorem d_Plan_amountAcross_85 : decode b_Plan_amountAcross 85 = .ok (.iload 6, 2) := by decide +kernel
theorem d_Plan_amountAcross_87 : decode b_Plan_amountAcross 87 = .ok (.iload 8, 2) := by decide +kernel
theorem d_Plan_amountAcross_89 : decode b_Plan_amountAcross 89 = .ok (.invokevirtual 55, 3) := by decide +kernel
theorem d_Plan_amountAcross_92 : decode b_Plan_amountAcross 92 = .ok (.ladd, 1) := by decide +kernel
theorem d_Plan_amountAcross_93 : decode b_Plan_amountAcross 93 = .ok (.lstore 4, 2) := by decide +kernel
theorem d_Plan_amountAcross_95 : decode b_Plan_amountAcross 95 = .ok (.iinc 8 1, 3) := by decide +kernel
theorem d_Plan_amountAcross_98 : decode b_Plan_amountAcross 98 = .ok (.goto (-59), 3) := by decide +kernel
theorem d_Plan_amountAcross_101 : decode b_Plan_amountAcross 101 = .ok (.iinc 6 1, 3) := by decide +kernel
theorem d_Plan_amountAcross_104 : decode b_Plan_amountAcross 104 = .ok (.goto (-98), 3) := by decide +kernel
theorem d_Plan_amountAcross_107 : decode b_Plan_amountAcross 107 = .ok (.lload 4, 2) := by decide +kernel
theorem d_Plan_amountAcross_109 : decode b_Plan_amountAcross 109 = .ok (.lreturn, 1) := by decide +kernel
abbrev b_Plan_isFree : ByteArray := prog_2_method_22_code
def y_Plan_isFree : MethodName := ⟨R_Plan, "isFree", "(II)Z"⟩
def u_Plan_isFree : List Cond := Cond.code y_Plan_isFree b_Plan_isFree 5 (some .boolean) :: wG
theorem d_Plan_isFree_0 : decode b_Plan_isFree 0 = .ok (.aload_n 0, 1) := by decide +kernel
theorem d_Plan_isFree_1 : decode b_Plan_isFree 1 = .ok (.getfield 13, 3) := by decide +kernel
theorem d_Plan_isFree_4 : decode b_Plan_isFree 4 = .ok (.iload_n 1, 1) := by decide +kernel
theorem d_Plan_isFree_5 : decode b_Plan_isFree 5 = .ok (.bipush 9, 2) := by decide +kernel
theorem d_Plan_isFree_7 : decode b_Plan_isFree 7 = .ok (.imul, 1) := by decide +kernel
theorem d_Plan_isFree_8 : decode b_Plan_isFree 8 = .ok (.iload_n 2, 1) := by decide +kernel
theorem d_Plan_isFree_9 : decode b_Plan_isFree 9 = .ok (.iadd, 1) := by decide +kernel
theorem d_Plan_isFree_10 : decode b_Plan_isFree 10 = .ok (.laload, 1) := by decide +kernel
theorem d_Plan_isFree_11 : decode b_Plan_isFree 11 = .ok (.lstore_n 3, 1) := by decide +kernel
theorem d_Plan_isFree_12 : decode b_Plan_isFree 12 = .ok (.lload_n 3, 1) := by decide +kernel
theorem d_Plan_isFree_13 : decode b_Plan_isFree 13 = .ok (.ldc2_w 77, 3) := by decide +kernel
theorem d_Plan_isFree_16 : decode b_Plan_isFree 16 = .ok (.lcmp, 1) := by decide +kernel
theorem d_Plan_isFree_17 : decode b_Plan_isFree 17 = .ok (.ifCond .eq 25, 3) := by decide +kernel
theorem d_Plan_isFree_20 : decode b_Plan_isFree 20 = .ok (.lload_n 3, 1) := by decide +kernel
theorem d_Plan_isFree_21 : decode b_Plan_isFree 21 = .ok (.aload_n 0, 1) := by decide +kernel
theorem d_Plan_isFree_22 : decode b_Plan_isFree 22 = .ok (.getfield 20, 3) := by decide +kernel
theorem d_Plan_isFree_25 : decode b_Plan_isFree 25 = .ok (.iload_n 1, 1) := by decide +kernel
theorem d_Plan_isFree_26 : decode b_Plan_isFree 26 = .ok (.laload, 1) := by decide +kernel
theorem d_Plan_isFree_27 : decode b_Plan_isFree 27 = .ok (.ladd, 1) := by decide +kernel
theorem d_Plan_isFree_28 : decode b_Plan_isFree 28 = .ok (.aload_n 0, 1) := by decide +kernel
theorem d_Plan_isFree_29 : decode b_Plan_isFree 29 = .ok (.getfield 23, 3) := by decide +kernel
theorem d_Plan_isFree_32 : decode b_Plan_isFree 32 = .ok (.iload_n 2, 1) := by decide +kernel
theorem d_Plan_isFree_33 : decode b_Plan_isFree 33 = .ok (.laload, 1) := by decide +kernel
theorem d_Plan_isFree_34 : decode b_Plan_isFree 34 = .ok (.lcmp, 1) := by decide +kernel
theorem d_Plan_isFree_35 : decode b_Plan_isFree 35 = .ok (.ifCond .ne 7, 3) := by decide +kernel
theorem d_Plan_isFree_38 : decode b_Plan_isFree 38 = .ok (.iconst 1, 1) := by decide +kernel
theorem d_Plan_isFree_39 : decode b_Plan_isFree 39 = .ok (.goto 4, 3) := by decide +kernel
theorem d_Plan_isFree_42 : decode b_Plan_isFree 42 = .ok (.iconst 0, 1) := by decide +kernel
theorem d_Plan_isFree_43 : decode b_Plan_isFree 43 = .ok (.ireturn, 1) := by decide +kernel
abbrev b_Plan_reach : ByteArray := prog_2_method_18_code
def y_Plan_reach : MethodName := ⟨R_Plan, "reach", "(IIJ)V"⟩
def u_Plan_reach : List Cond := Cond.code y_Plan_reach b_Plan_reach 7 none :: wG
theorem d_Plan_reach_0 : decode b_Plan_reach 0 = .ok (.aload_n 0, 1) := by decide +kernel
theorem d_Plan_reach_1 : decode b_Plan_reach 1 = .ok (.getfield 26, 3) := by decide +kernel
theorem d_Plan_reach_4 : decode b_Plan_reach 4 = .ok (.iload_n 2, 1) := by decide +kernel
theorem d_Plan_reach_5 : decode b_Plan_reach 5 = .ok (.laload, 1) := by decide +kernel
theorem d_Plan_reach_6 : decode b_Plan_reach 6 = .ok (.lload_n 3, 1) := by decide +kernel
theorem d_Plan_reach_7 : decode b_Plan_reach 7 = .ok (.ldc2_w 79, 3) := by decide +kernel
theorem d_Plan_reach_10 : decode b_Plan_reach 10 = .ok (.lmul, 1) := by decide +kernel
theorem d_Plan_reach_11 : decode b_Plan_reach 11 = .ok (.ladd, 1) := by decide +kernel
theorem d_Plan_reach_12 : decode b_Plan_reach 12 = .ok (.lconst 1, 1) := by decide +kernel
theorem d_Plan_reach_13 : decode b_Plan_reach 13 = .ok (.ladd, 1) := by decide +kernel
theorem d_Plan_reach_14 : decode b_Plan_reach 14 = .ok (.lstore 5, 2) := by decide +kernel
theorem d_Plan_reach_16 : decode b_Plan_reach 16 = .ok (.aload_n 0, 1) := by decide +kernel
theorem d_Plan_reach_17 : decode b_Plan_reach 17 = .ok (.getfield 29, 3) := by decide +kernel
theorem d_Plan_reach_20 : decode b_Plan_reach 20 = .ok (.iload_n 1, 1) := by decide +kernel
theorem d_Plan_reach_21 : decode b_Plan_reach 21 = .ok (.baload, 1) := by decide +kernel
theorem d_Plan_reach_22 : decode b_Plan_reach 22 = .ok (.ifCond .ne 30, 3) := by decide +kernel
theorem d_Plan_reach_25 : decode b_Plan_reach 25 = .ok (.lload 5, 2) := by decide +kernel
theorem d_Plan_reach_27 : decode b_Plan_reach 27 = .ok (.aload_n 0, 1) := by decide +kernel
theorem d_Plan_reach_28 : decode b_Plan_reach 28 = .ok (.getfield 26, 3) := by decide +kernel
theorem d_Plan_reach_31 : decode b_Plan_reach 31 = .ok (.iload_n 1, 1) := by decide +kernel
theorem d_Plan_reach_32 : decode b_Plan_reach 32 = .ok (.laload, 1) := by decide +kernel
theorem d_Plan_reach_33 : decode b_Plan_reach 33 = .ok (.lcmp, 1) := by decide +kernel
theorem d_Plan_reach_34 : decode b_Plan_reach 34 = .ok (.ifCond .ge 18, 3) := by decide +kernel
theorem d_Plan_reach_37 : decode b_Plan_reach 37 = .ok (.aload_n 0, 1) := by decide +kernel
theorem d_Plan_reach_38 : decode b_Plan_reach 38 = .ok (.getfield 26, 3) := by decide +kernel
theorem d_Plan_reach_41 : decode b_Plan_reach 41 = .ok (.iload_n 1, 1) := by decide +kernel
theorem d_Plan_reach_42 : decode b_Plan_reach 42 = .ok (.lload 5, 2) := by decide +kernel
theorem d_Plan_reach_44 : decode b_Plan_reach 44 = .ok (.lastore, 1) := by decide +kernel
theorem d_Plan_reach_45 : decode b_Plan_reach 45 = .ok (.aload_n 0, 1) := by decide +kernel
theorem d_Plan_reach_46 : decode b_Plan_reach 46 = .ok (.getfield 33, 3) := by decide +kernel
theorem d_Plan_reach_49 : decode b_Plan_reach 49 = .ok (.iload_n 1, 1) := by decide +kernel
theorem d_Plan_reach_50 : decode b_Plan_reach 50 = .ok (.iload_n 2, 1) := by decide +kernel
theorem d_Plan_reach_51 : decode b_Plan_reach 51 = .ok (.iastore, 1) := by decide +kernel
theorem d_Plan_reach_52 : decode b_Plan_reach 52 = .ok (.return_, 1) := by decide +kernel
abbrev b_Plan_reachFills : ByteArray := prog_2_method_16_code
def y_Plan_reachFills : MethodName := ⟨R_Plan, "reachFills", "(I)V"⟩
def u_Plan_reachFills : List Cond := Cond.code y_Plan_reachFills b_Plan_reachFills 3 none :: wG
theorem d_Plan_reachFills_0 : decode b_Plan_reachFills 0 = .ok (.iconst 0, 1) := by decide +kernel
theorem d_Plan_reachFills_1 : decode b_Plan_reachFills 1 = .ok (.istore_n 2, 1) := by decide +kernel
theorem d_Plan_reachFills_2 : decode b_Plan_reachFills 2 = .ok (.iload_n 2, 1) := by decide +kernel
theorem d_Plan_reachFills_3 : decode b_Plan_reachFills 3 = .ok (.aload_n 0, 1) := by decide +kernel
theorem d_Plan_reachFills_4 : decode b_Plan_reachFills 4 = .ok (.getfield 48, 3) := by decide +kernel
theorem d_Plan_reachFills_7 : decode b_Plan_reachFills 7 = .ok (.if_icmp .ge 35, 3) := by decide +kernel
theorem d_Plan_reachFills_10 : decode b_Plan_reachFills 10 = .ok (.aload_n 0, 1) := by decide +kernel
theorem d_Plan_reachFills_11 : decode b_Plan_reachFills 11 = .ok (.getfield 17, 3) := by decide +kernel
theorem d_Plan_reachFills_14 : decode b_Plan_reachFills 14 = .ok (.iload_n 1, 1) := by decide +kernel
theorem d_Plan_reachFills_15 : decode b_Plan_reachFills 15 = .ok (.bipush 9, 2) := by decide +kernel
theorem d_Plan_reachFills_17 : decode b_Plan_reachFills 17 = .ok (.imul, 1) := by decide +kernel
theorem d_Plan_reachFills_18 : decode b_Plan_reachFills 18 = .ok (.iload_n 2, 1) := by decide +kernel
theorem d_Plan_reachFills_19 : decode b_Plan_reachFills 19 = .ok (.iadd, 1) := by decide +kernel
theorem d_Plan_reachFills_20 : decode b_Plan_reachFills 20 = .ok (.laload, 1) := by decide +kernel
theorem d_Plan_reachFills_21 : decode b_Plan_reachFills 21 = .ok (.lconst 0, 1) := by decide +kernel
theorem d_Plan_reachFills_22 : decode b_Plan_reachFills 22 = .ok (.lcmp, 1) := by decide +kernel
theorem d_Plan_reachFills_23 : decode b_Plan_reachFills 23 = .ok (.ifCond .le 13, 3) := by decide +kernel
theorem d_Plan_reachFills_26 : decode b_Plan_reachFills 26 = .ok (.aload_n 0, 1) := by decide +kernel
theorem d_Plan_reachFills_27 : decode b_Plan_reachFills 27 = .ok (.bipush 12, 2) := by decide +kernel
theorem d_Plan_reachFills_29 : decode b_Plan_reachFills 29 = .ok (.iload_n 2, 1) := by decide +kernel
theorem d_Plan_reachFills_30 : decode b_Plan_reachFills 30 = .ok (.iadd, 1) := by decide +kernel
theorem d_Plan_reachFills_31 : decode b_Plan_reachFills 31 = .ok (.iload_n 1, 1) := by decide +kernel
theorem d_Plan_reachFills_32 : decode b_Plan_reachFills 32 = .ok (.lconst 0, 1) := by decide +kernel
theorem d_Plan_reachFills_33 : decode b_Plan_reachFills 33 = .ok (.invokevirtual 136, 3) := by decide +kernel
theorem d_Plan_reachFills_36 : decode b_Plan_reachFills 36 = .ok (.iinc 2 1, 3) := by decide +kernel
theorem d_Plan_reachFills_39 : decode b_Plan_reachFills 39 = .ok (.goto (-37), 3) := by decide +kernel
theorem d_Plan_reachFills_42 : decode b_Plan_reachFills 42 = .ok (.return_, 1) := by decide +kernel
abbrev b_Plan_reachSources : ByteArray := prog_2_method_17_code
def y_Plan_reachSources : MethodName := ⟨R_Plan, "reachSources", "(I)V"⟩
def u_Plan_reachSources : List Cond := Cond.code y_Plan_reachSources b_Plan_reachSources 5 none :: wG
theorem d_Plan_reachSources_0 : decode b_Plan_reachSources 0 = .ok (.iconst 0, 1) := by decide +kernel
theorem d_Plan_reachSources_1 : decode b_Plan_reachSources 1 = .ok (.istore_n 2, 1) := by decide +kernel
theorem d_Plan_reachSources_2 : decode b_Plan_reachSources 2 = .ok (.iload_n 2, 1) := by decide +kernel
theorem d_Plan_reachSources_3 : decode b_Plan_reachSources 3 = .ok (.aload_n 0, 1) := by decide +kernel
theorem d_Plan_reachSources_4 : decode b_Plan_reachSources 4 = .ok (.getfield 44, 3) := by decide +kernel
theorem d_Plan_reachSources_7 : decode b_Plan_reachSources 7 = .ok (.if_icmp .ge 53, 3) := by decide +kernel
theorem d_Plan_reachSources_10 : decode b_Plan_reachSources 10 = .ok (.aload_n 0, 1) := by decide +kernel
theorem d_Plan_reachSources_11 : decode b_Plan_reachSources 11 = .ok (.getfield 13, 3) := by decide +kernel
theorem d_Plan_reachSources_14 : decode b_Plan_reachSources 14 = .ok (.iload_n 2, 1) := by decide +kernel
theorem d_Plan_reachSources_15 : decode b_Plan_reachSources 15 = .ok (.bipush 9, 2) := by decide +kernel
theorem d_Plan_reachSources_17 : decode b_Plan_reachSources 17 = .ok (.imul, 1) := by decide +kernel
theorem d_Plan_reachSources_18 : decode b_Plan_reachSources 18 = .ok (.iload_n 1, 1) := by decide +kernel
theorem d_Plan_reachSources_19 : decode b_Plan_reachSources 19 = .ok (.iadd, 1) := by decide +kernel
theorem d_Plan_reachSources_20 : decode b_Plan_reachSources 20 = .ok (.laload, 1) := by decide +kernel
theorem d_Plan_reachSources_21 : decode b_Plan_reachSources 21 = .ok (.lstore_n 3, 1) := by decide +kernel
theorem d_Plan_reachSources_22 : decode b_Plan_reachSources 22 = .ok (.lload_n 3, 1) := by decide +kernel
theorem d_Plan_reachSources_23 : decode b_Plan_reachSources 23 = .ok (.ldc2_w 77, 3) := by decide +kernel
theorem d_Plan_reachSources_26 : decode b_Plan_reachSources 26 = .ok (.lcmp, 1) := by decide +kernel
theorem d_Plan_reachSources_27 : decode b_Plan_reachSources 27 = .ok (.ifCond .eq 27, 3) := by decide +kernel
theorem d_Plan_reachSources_30 : decode b_Plan_reachSources 30 = .ok (.aload_n 0, 1) := by decide +kernel
theorem d_Plan_reachSources_31 : decode b_Plan_reachSources 31 = .ok (.iload_n 2, 1) := by decide +kernel
theorem d_Plan_reachSources_32 : decode b_Plan_reachSources 32 = .ok (.bipush 12, 2) := by decide +kernel
theorem d_Plan_reachSources_34 : decode b_Plan_reachSources 34 = .ok (.iload_n 1, 1) := by decide +kernel
theorem d_Plan_reachSources_35 : decode b_Plan_reachSources 35 = .ok (.iadd, 1) := by decide +kernel
theorem d_Plan_reachSources_36 : decode b_Plan_reachSources 36 = .ok (.lload_n 3, 1) := by decide +kernel
theorem d_Plan_reachSources_37 : decode b_Plan_reachSources 37 = .ok (.aload_n 0, 1) := by decide +kernel
theorem d_Plan_reachSources_38 : decode b_Plan_reachSources 38 = .ok (.getfield 20, 3) := by decide +kernel
theorem d_Plan_reachSources_41 : decode b_Plan_reachSources 41 = .ok (.iload_n 2, 1) := by decide +kernel
theorem d_Plan_reachSources_42 : decode b_Plan_reachSources 42 = .ok (.laload, 1) := by decide +kernel
theorem d_Plan_reachSources_43 : decode b_Plan_reachSources 43 = .ok (.ladd, 1) := by decide +kernel
theorem d_Plan_reachSources_44 : decode b_Plan_reachSources 44 = .ok (.aload_n 0, 1) := by decide +kernel
theorem d_Plan_reachSources_45 : decode b_Plan_reachSources 45 = .ok (.getfield 23, 3) := by decide +kernel
theorem d_Plan_reachSources_48 : decode b_Plan_reachSources 48 = .ok (.iload_n 1, 1) := by decide +kernel
theorem d_Plan_reachSources_49 : decode b_Plan_reachSources 49 = .ok (.laload, 1) := by decide +kernel
theorem d_Plan_reachSources_50 : decode b_Plan_reachSources 50 = .ok (.lsub, 1) := by decide +kernel
theorem d_Plan_reachSources_51 : decode b_Plan_reachSources 51 = .ok (.invokevirtual 136, 3) := by decide +kernel
theorem d_Plan_reachSources_54 : decode b_Plan_reachSources 54 = .ok (.iinc 2 1, 3) := by decide +kernel
theorem d_Plan_reachSources_57 : decode b_Plan_reachSources 57 = .ok (.goto (-55), 3) := by decide +kernel
theorem d_Plan_reachSources_60 : decode b_Plan_reachSources 60 = .ok (.return_, 1) := by decide +kernel
abbrev b_Plan_nearest : ByteArray := prog_2_method_15_code
def y_Plan_nearest : MethodName := ⟨R_Plan, "nearest", "()I"⟩
def u_Plan_nearest : List Cond := Cond.code y_Plan_nearest b_Plan_nearest 5 (some .int) :: wG
theorem d_Plan_nearest_0 : decode b_Plan_nearest 0 = .ok (.iconst (-1), 1) := by decide +kernel
theorem d_Plan_nearest_1 : decode b_Plan_nearest 1 = .ok (.istore_n 1, 1) := by decide +kernel
theorem d_Plan_nearest_2 : decode b_Plan_nearest 2 = .ok (.ldc2_w 125, 3) := by decide +kernel
theorem d_Plan_nearest_5 : decode b_Plan_nearest 5 = .ok (.lstore_n 2, 1) := by decide +kernel
theorem d_Plan_nearest_6 : decode b_Plan_nearest 6 = .ok (.iconst 0, 1) := by decide +kernel
theorem d_Plan_nearest_7 : decode b_Plan_nearest 7 = .ok (.istore 4, 2) := by decide +kernel
theorem d_Plan_nearest_9 : decode b_Plan_nearest 9 = .ok (.iload 4, 2) := by decide +kernel
theorem d_Plan_nearest_11 : decode b_Plan_nearest 11 = .ok (.bipush 12, 2) := by decide +kernel
theorem d_Plan_nearest_13 : decode b_Plan_nearest 13 = .ok (.aload_n 0, 1) := by decide +kernel
theorem d_Plan_nearest_14 : decode b_Plan_nearest 14 = .ok (.getfield 48, 3) := by decide +kernel
theorem d_Plan_nearest_17 : decode b_Plan_nearest 17 = .ok (.iadd, 1) := by decide +kernel
theorem d_Plan_nearest_18 : decode b_Plan_nearest 18 = .ok (.if_icmp .ge 42, 3) := by decide +kernel
theorem d_Plan_nearest_21 : decode b_Plan_nearest 21 = .ok (.aload_n 0, 1) := by decide +kernel
theorem d_Plan_nearest_22 : decode b_Plan_nearest 22 = .ok (.getfield 29, 3) := by decide +kernel
theorem d_Plan_nearest_25 : decode b_Plan_nearest 25 = .ok (.iload 4, 2) := by decide +kernel
theorem d_Plan_nearest_27 : decode b_Plan_nearest 27 = .ok (.baload, 1) := by decide +kernel
theorem d_Plan_nearest_28 : decode b_Plan_nearest 28 = .ok (.ifCond .ne 26, 3) := by decide +kernel
theorem d_Plan_nearest_31 : decode b_Plan_nearest 31 = .ok (.aload_n 0, 1) := by decide +kernel
theorem d_Plan_nearest_32 : decode b_Plan_nearest 32 = .ok (.getfield 26, 3) := by decide +kernel
theorem d_Plan_nearest_35 : decode b_Plan_nearest 35 = .ok (.iload 4, 2) := by decide +kernel
theorem d_Plan_nearest_37 : decode b_Plan_nearest 37 = .ok (.laload, 1) := by decide +kernel
theorem d_Plan_nearest_38 : decode b_Plan_nearest 38 = .ok (.lload_n 2, 1) := by decide +kernel
theorem d_Plan_nearest_39 : decode b_Plan_nearest 39 = .ok (.lcmp, 1) := by decide +kernel
theorem d_Plan_nearest_40 : decode b_Plan_nearest 40 = .ok (.ifCond .ge 14, 3) := by decide +kernel
theorem d_Plan_nearest_43 : decode b_Plan_nearest 43 = .ok (.aload_n 0, 1) := by decide +kernel
theorem d_Plan_nearest_44 : decode b_Plan_nearest 44 = .ok (.getfield 26, 3) := by decide +kernel
theorem d_Plan_nearest_47 : decode b_Plan_nearest 47 = .ok (.iload 4, 2) := by decide +kernel
theorem d_Plan_nearest_49 : decode b_Plan_nearest 49 = .ok (.laload, 1) := by decide +kernel
theorem d_Plan_nearest_50 : decode b_Plan_nearest 50 = .ok (.lstore_n 2, 1) := by decide +kernel
theorem d_Plan_nearest_51 : decode b_Plan_nearest 51 = .ok (.iload 4, 2) := by decide +kernel
theorem d_Plan_nearest_53 : decode b_Plan_nearest 53 = .ok (.istore_n 1, 1) := by decide +kernel
theorem d_Plan_nearest_54 : decode b_Plan_nearest 54 = .ok (.iinc 4 1, 3) := by decide +kernel
theorem d_Plan_nearest_57 : decode b_Plan_nearest 57 = .ok (.goto (-48), 3) := by decide +kernel
theorem d_Plan_nearest_60 : decode b_Plan_nearest 60 = .ok (.iload_n 1, 1) := by decide +kernel
theorem d_Plan_nearest_61 : decode b_Plan_nearest 61 = .ok (.ireturn, 1) := by decide +kernel
abbrev b_Plan_raiseWorths : ByteArray := prog_2_method_19_code
def y_Plan_raiseWorths : MethodName := ⟨R_Plan, "raiseWorths", "(J)V"⟩
def u_Plan_raiseWorths : List Cond := Cond.code y_Plan_raiseWorths b_Plan_raiseWorths 4 none :: wG
theorem d_Plan_raiseWorths_0 : decode b_Plan_raiseWorths 0 = .ok (.iconst 0, 1) := by decide +kernel
theorem d_Plan_raiseWorths_1 : decode b_Plan_raiseWorths 1 = .ok (.istore_n 3, 1) := by decide +kernel
theorem d_Plan_raiseWorths_2 : decode b_Plan_raiseWorths 2 = .ok (.iload_n 3, 1) := by decide +kernel
theorem d_Plan_raiseWorths_3 : decode b_Plan_raiseWorths 3 = .ok (.aload_n 0, 1) := by decide +kernel
theorem d_Plan_raiseWorths_4 : decode b_Plan_raiseWorths 4 = .ok (.getfield 44, 3) := by decide +kernel
theorem d_Plan_raiseWorths_7 : decode b_Plan_raiseWorths 7 = .ok (.if_icmp .ge 34, 3) := by decide +kernel
theorem d_Plan_raiseWorths_10 : decode b_Plan_raiseWorths 10 = .ok (.aload_n 0, 1) := by decide +kernel
theorem d_Plan_raiseWorths_11 : decode b_Plan_raiseWorths 11 = .ok (.getfield 20, 3) := by decide +kernel
theorem d_Plan_raiseWorths_14 : decode b_Plan_raiseWorths 14 = .ok (.iload_n 3, 1) := by decide +kernel
theorem d_Plan_raiseWorths_15 : decode b_Plan_raiseWorths 15 = .ok (.dup2, 1) := by decide +kernel
theorem d_Plan_raiseWorths_16 : decode b_Plan_raiseWorths 16 = .ok (.laload, 1) := by decide +kernel
theorem d_Plan_raiseWorths_17 : decode b_Plan_raiseWorths 17 = .ok (.lconst 0, 1) := by decide +kernel
theorem d_Plan_raiseWorths_18 : decode b_Plan_raiseWorths 18 = .ok (.lload_n 1, 1) := by decide +kernel
theorem d_Plan_raiseWorths_19 : decode b_Plan_raiseWorths 19 = .ok (.aload_n 0, 1) := by decide +kernel
theorem d_Plan_raiseWorths_20 : decode b_Plan_raiseWorths 20 = .ok (.getfield 26, 3) := by decide +kernel
theorem d_Plan_raiseWorths_23 : decode b_Plan_raiseWorths 23 = .ok (.iload_n 3, 1) := by decide +kernel
theorem d_Plan_raiseWorths_24 : decode b_Plan_raiseWorths 24 = .ok (.laload, 1) := by decide +kernel
theorem d_Plan_raiseWorths_25 : decode b_Plan_raiseWorths 25 = .ok (.ldc2_w 79, 3) := by decide +kernel
theorem d_Plan_raiseWorths_28 : decode b_Plan_raiseWorths 28 = .ok (.ldiv, 1) := by decide +kernel
theorem d_Plan_raiseWorths_29 : decode b_Plan_raiseWorths 29 = .ok (.lsub, 1) := by decide +kernel
theorem d_Plan_raiseWorths_30 : decode b_Plan_raiseWorths 30 = .ok (.invokestatic 140, 3) := by decide +kernel
theorem d_Plan_raiseWorths_33 : decode b_Plan_raiseWorths 33 = .ok (.ladd, 1) := by decide +kernel
theorem d_Plan_raiseWorths_34 : decode b_Plan_raiseWorths 34 = .ok (.lastore, 1) := by decide +kernel
theorem d_Plan_raiseWorths_35 : decode b_Plan_raiseWorths 35 = .ok (.iinc 3 1, 3) := by decide +kernel
theorem d_Plan_raiseWorths_38 : decode b_Plan_raiseWorths 38 = .ok (.goto (-36), 3) := by decide +kernel
theorem d_Plan_raiseWorths_41 : decode b_Plan_raiseWorths 41 = .ok (.iconst 0, 1) := by decide +kernel
theorem d_Plan_raiseWorths_42 : decode b_Plan_raiseWorths 42 = .ok (.istore_n 3, 1) := by decide +kernel
theorem d_Plan_raiseWorths_43 : decode b_Plan_raiseWorths 43 = .ok (.iload_n 3, 1) := by decide +kernel
theorem d_Plan_raiseWorths_44 : decode b_Plan_raiseWorths 44 = .ok (.aload_n 0, 1) := by decide +kernel
theorem d_Plan_raiseWorths_45 : decode b_Plan_raiseWorths 45 = .ok (.getfield 48, 3) := by decide +kernel
theorem d_Plan_raiseWorths_48 : decode b_Plan_raiseWorths 48 = .ok (.if_icmp .ge 37, 3) := by decide +kernel
theorem d_Plan_raiseWorths_51 : decode b_Plan_raiseWorths 51 = .ok (.aload_n 0, 1) := by decide +kernel
theorem d_Plan_raiseWorths_52 : decode b_Plan_raiseWorths 52 = .ok (.getfield 23, 3) := by decide +kernel
theorem d_Plan_raiseWorths_55 : decode b_Plan_raiseWorths 55 = .ok (.iload_n 3, 1) := by decide +kernel
theorem d_Plan_raiseWorths_56 : decode b_Plan_raiseWorths 56 = .ok (.dup2, 1) := by decide +kernel
theorem d_Plan_raiseWorths_57 : decode b_Plan_raiseWorths 57 = .ok (.laload, 1) := by decide +kernel
theorem d_Plan_raiseWorths_58 : decode b_Plan_raiseWorths 58 = .ok (.lconst 0, 1) := by decide +kernel
theorem d_Plan_raiseWorths_59 : decode b_Plan_raiseWorths 59 = .ok (.lload_n 1, 1) := by decide +kernel
theorem d_Plan_raiseWorths_60 : decode b_Plan_raiseWorths 60 = .ok (.aload_n 0, 1) := by decide +kernel
theorem d_Plan_raiseWorths_61 : decode b_Plan_raiseWorths 61 = .ok (.getfield 26, 3) := by decide +kernel
theorem d_Plan_raiseWorths_64 : decode b_Plan_raiseWorths 64 = .ok (.bipush 12, 2) := by decide +kernel
theorem d_Plan_raiseWorths_66 : decode b_Plan_raiseWorths 66 = .ok (.iload_n 3, 1) := by decide +kernel
theorem d_Plan_raiseWorths_67 : decode b_Plan_raiseWorths 67 = .ok (.iadd, 1) := by decide +kernel
theorem d_Plan_raiseWorths_68 : decode b_Plan_raiseWorths 68 = .ok (.laload, 1) := by decide +kernel
theorem d_Plan_raiseWorths_69 : decode b_Plan_raiseWorths 69 = .ok (.ldc2_w 79, 3) := by decide +kernel
theorem d_Plan_raiseWorths_72 : decode b_Plan_raiseWorths 72 = .ok (.ldiv, 1) := by decide +kernel
theorem d_Plan_raiseWorths_73 : decode b_Plan_raiseWorths 73 = .ok (.lsub, 1) := by decide +kernel
theorem d_Plan_raiseWorths_74 : decode b_Plan_raiseWorths 74 = .ok (.invokestatic 140, 3) := by decide +kernel
theorem d_Plan_raiseWorths_77 : decode b_Plan_raiseWorths 77 = .ok (.ladd, 1) := by decide +kernel
theorem d_Plan_raiseWorths_78 : decode b_Plan_raiseWorths 78 = .ok (.lastore, 1) := by decide +kernel
theorem d_Plan_raiseWorths_79 : decode b_Plan_raiseWorths 79 = .ok (.iinc 3 1, 3) := by decide +kernel
theorem d_Plan_raiseWorths_82 : decode b_Plan_raiseWorths 82 = .ok (.goto (-39), 3) := by decide +kernel
theorem d_Plan_raiseWorths_85 : decode b_Plan_raiseWorths 85 = .ok (.return_, 1) := by decide +kernel
abbrev b_Plan_clear : ByteArray := prog_2_method_12_code
def y_Plan_clear : MethodName := ⟨R_Plan, "clear", "(I)V"⟩
def u_Plan_clear : List Cond := Cond.code y_Plan_clear b_Plan_clear 5 none :: wG
theorem d_Plan_clear_0 : decode b_Plan_clear 0 = .ok (.aload_n 0, 1) := by decide +kernel
theorem d_Plan_clear_1 : decode b_Plan_clear 1 = .ok (.aload_n 0, 1) := by decide +kernel
theorem d_Plan_clear_2 : decode b_Plan_clear 2 = .ok (.getfield 40, 3) := by decide +kernel
theorem d_Plan_clear_5 : decode b_Plan_clear 5 = .ok (.invokevirtual 92, 3) := by decide +kernel
theorem d_Plan_clear_8 : decode b_Plan_clear 8 = .ok (.putfield 44, 3) := by decide +kernel
theorem d_Plan_clear_11 : decode b_Plan_clear 11 = .ok (.aload_n 0, 1) := by decide +kernel
theorem d_Plan_clear_12 : decode b_Plan_clear 12 = .ok (.aload_n 0, 1) := by decide +kernel
theorem d_Plan_clear_13 : decode b_Plan_clear 13 = .ok (.getfield 40, 3) := by decide +kernel
theorem d_Plan_clear_16 : decode b_Plan_clear 16 = .ok (.getfield 95, 3) := by decide +kernel
theorem d_Plan_clear_19 : decode b_Plan_clear 19 = .ok (.putfield 48, 3) := by decide +kernel
theorem d_Plan_clear_22 : decode b_Plan_clear 22 = .ok (.aload_n 0, 1) := by decide +kernel
theorem d_Plan_clear_23 : decode b_Plan_clear 23 = .ok (.getfield 13, 3) := by decide +kernel
theorem d_Plan_clear_26 : decode b_Plan_clear 26 = .ok (.ldc2_w 77, 3) := by decide +kernel
theorem d_Plan_clear_29 : decode b_Plan_clear 29 = .ok (.invokestatic 96, 3) := by decide +kernel
theorem d_Plan_clear_32 : decode b_Plan_clear 32 = .ok (.aload_n 0, 1) := by decide +kernel
theorem d_Plan_clear_33 : decode b_Plan_clear 33 = .ok (.getfield 17, 3) := by decide +kernel
theorem d_Plan_clear_36 : decode b_Plan_clear 36 = .ok (.lconst 0, 1) := by decide +kernel
theorem d_Plan_clear_37 : decode b_Plan_clear 37 = .ok (.invokestatic 96, 3) := by decide +kernel
theorem d_Plan_clear_40 : decode b_Plan_clear 40 = .ok (.aload_n 0, 1) := by decide +kernel
theorem d_Plan_clear_41 : decode b_Plan_clear 41 = .ok (.getfield 20, 3) := by decide +kernel
theorem d_Plan_clear_44 : decode b_Plan_clear 44 = .ok (.lconst 0, 1) := by decide +kernel
theorem d_Plan_clear_45 : decode b_Plan_clear 45 = .ok (.invokestatic 96, 3) := by decide +kernel
theorem d_Plan_clear_48 : decode b_Plan_clear 48 = .ok (.aload_n 0, 1) := by decide +kernel
theorem d_Plan_clear_49 : decode b_Plan_clear 49 = .ok (.getfield 23, 3) := by decide +kernel
theorem d_Plan_clear_52 : decode b_Plan_clear 52 = .ok (.lconst 0, 1) := by decide +kernel
theorem d_Plan_clear_53 : decode b_Plan_clear 53 = .ok (.invokestatic 96, 3) := by decide +kernel
theorem d_Plan_clear_56 : decode b_Plan_clear 56 = .ok (.iconst 0, 1) := by decide +kernel
theorem d_Plan_clear_57 : decode b_Plan_clear 57 = .ok (.istore_n 2, 1) := by decide +kernel
theorem d_Plan_clear_58 : decode b_Plan_clear 58 = .ok (.iload_n 2, 1) := by decide +kernel
theorem d_Plan_clear_59 : decode b_Plan_clear 59 = .ok (.aload_n 0, 1) := by decide +kernel
theorem d_Plan_clear_60 : decode b_Plan_clear 60 = .ok (.getfield 44, 3) := by decide +kernel
theorem d_Plan_clear_63 : decode b_Plan_clear 63 = .ok (.if_icmp .ge 92, 3) := by decide +kernel
theorem d_Plan_clear_66 : decode b_Plan_clear 66 = .ok (.iload_n 2, 1) := by decide +kernel
theorem d_Plan_clear_67 : decode b_Plan_clear 67 = .ok (.bipush 9, 2) := by decide +kernel
theorem d_Plan_clear_69 : decode b_Plan_clear 69 = .ok (.imul, 1) := by decide +kernel
theorem d_Plan_clear_70 : decode b_Plan_clear 70 = .ok (.istore_n 3, 1) := by decide +kernel
theorem d_Plan_clear_71 : decode b_Plan_clear 71 = .ok (.aload_n 0, 1) := by decide +kernel
theorem d_Plan_clear_72 : decode b_Plan_clear 72 = .ok (.getfield 13, 3) := by decide +kernel
theorem d_Plan_clear_75 : decode b_Plan_clear 75 = .ok (.iload_n 3, 1) := by decide +kernel
theorem d_Plan_clear_76 : decode b_Plan_clear 76 = .ok (.bipush 8, 2) := by decide +kernel
theorem d_Plan_clear_78 : decode b_Plan_clear 78 = .ok (.iadd, 1) := by decide +kernel
theorem d_Plan_clear_79 : decode b_Plan_clear 79 = .ok (.lconst 0, 1) := by decide +kernel
theorem d_Plan_clear_80 : decode b_Plan_clear 80 = .ok (.lastore, 1) := by decide +kernel
theorem d_Plan_clear_81 : decode b_Plan_clear 81 = .ok (.aload_n 0, 1) := by decide +kernel
theorem d_Plan_clear_82 : decode b_Plan_clear 82 = .ok (.getfield 17, 3) := by decide +kernel
theorem d_Plan_clear_85 : decode b_Plan_clear 85 = .ok (.iload_n 3, 1) := by decide +kernel
theorem d_Plan_clear_86 : decode b_Plan_clear 86 = .ok (.bipush 8, 2) := by decide +kernel
theorem d_Plan_clear_88 : decode b_Plan_clear 88 = .ok (.iadd, 1) := by decide +kernel
theorem d_Plan_clear_89 : decode b_Plan_clear 89 = .ok (.aload_n 0, 1) := by decide +kernel
theorem d_Plan_clear_90 : decode b_Plan_clear 90 = .ok (.getfield 40, 3) := by decide +kernel
theorem d_Plan_clear_93 : decode b_Plan_clear 93 = .ok (.iload_n 2, 1) := by decide +kernel
theorem d_Plan_clear_94 : decode b_Plan_clear 94 = .ok (.invokevirtual 102, 3) := by decide +kernel
theorem d_Plan_clear_97 : decode b_Plan_clear 97 = .ok (.lastore, 1) := by decide +kernel
theorem d_Plan_clear_98 : decode b_Plan_clear 98 = .ok (.iconst 0, 1) := by decide +kernel
theorem d_Plan_clear_99 : decode b_Plan_clear 99 = .ok (.istore 4, 2) := by decide +kernel
theorem d_Plan_clear_101 : decode b_Plan_clear 101 = .ok (.iload 4, 2) := by decide +kernel
theorem d_Plan_clear_103 : decode b_Plan_clear 103 = .ok (.aload_n 0, 1) := by decide +kernel
theorem d_Plan_clear_104 : decode b_Plan_clear 104 = .ok (.getfield 48, 3) := by decide +kernel
theorem d_Plan_clear_107 : decode b_Plan_clear 107 = .ok (.if_icmp .ge 42, 3) := by decide +kernel
theorem d_Plan_clear_110 : decode b_Plan_clear 110 = .ok (.aload_n 0, 1) := by decide +kernel
theorem d_Plan_clear_111 : decode b_Plan_clear 111 = .ok (.getfield 40, 3) := by decide +kernel
theorem d_Plan_clear_114 : decode b_Plan_clear 114 = .ok (.iload_n 2, 1) := by decide +kernel
theorem d_Plan_clear_115 : decode b_Plan_clear 115 = .ok (.iload 4, 2) := by decide +kernel
theorem d_Plan_clear_117 : decode b_Plan_clear 117 = .ok (.invokevirtual 105, 3) := by decide +kernel
theorem d_Plan_clear_120 : decode b_Plan_clear 120 = .ok (.ifCond .eq 23, 3) := by decide +kernel
theorem d_Plan_clear_123 : decode b_Plan_clear 123 = .ok (.aload_n 0, 1) := by decide +kernel
theorem d_Plan_clear_124 : decode b_Plan_clear 124 = .ok (.getfield 13, 3) := by decide +kernel
theorem d_Plan_clear_127 : decode b_Plan_clear 127 = .ok (.iload_n 3, 1) := by decide +kernel
theorem d_Plan_clear_128 : decode b_Plan_clear 128 = .ok (.iload 4, 2) := by decide +kernel
theorem d_Plan_clear_130 : decode b_Plan_clear 130 = .ok (.iadd, 1) := by decide +kernel
theorem d_Plan_clear_131 : decode b_Plan_clear 131 = .ok (.aload_n 0, 1) := by decide +kernel
theorem d_Plan_clear_132 : decode b_Plan_clear 132 = .ok (.getfield 40, 3) := by decide +kernel
theorem d_Plan_clear_135 : decode b_Plan_clear 135 = .ok (.iload_n 2, 1) := by decide +kernel
theorem d_Plan_clear_136 : decode b_Plan_clear 136 = .ok (.iload 4, 2) := by decide +kernel
theorem d_Plan_clear_138 : decode b_Plan_clear 138 = .ok (.iload_n 1, 1) := by decide +kernel
theorem d_Plan_clear_139 : decode b_Plan_clear 139 = .ok (.invokevirtual 109, 3) := by decide +kernel
theorem d_Plan_clear_142 : decode b_Plan_clear 142 = .ok (.lastore, 1) := by decide +kernel
theorem d_Plan_clear_143 : decode b_Plan_clear 143 = .ok (.iinc 4 1, 3) := by decide +kernel
theorem d_Plan_clear_146 : decode b_Plan_clear 146 = .ok (.goto (-45), 3) := by decide +kernel
theorem d_Plan_clear_149 : decode b_Plan_clear 149 = .ok (.iinc 2 1, 3) := by decide +kernel
theorem d_Plan_clear_152 : decode b_Plan_clear 152 = .ok (.goto (-94), 3) := by decide +kernel
theorem d_Plan_clear_155 : decode b_Plan_clear 155 = .ok (.return_, 1) := by decide +kernel
abbrev b_Plan_enqueue : ByteArray := prog_2_method_27_code
def y_Plan_enqueue : MethodName := ⟨R_Plan, "enqueue", "(II)V"⟩
def u_Plan_enqueue : List Cond := Cond.code y_Plan_enqueue b_Plan_enqueue 3 none :: wG
theorem d_Plan_enqueue_0 : decode b_Plan_enqueue 0 = .ok (.aload_n 0, 1) := by decide +kernel
theorem d_Plan_enqueue_1 : decode b_Plan_enqueue 1 = .ok (.getfield 33, 3) := by decide +kernel
theorem d_Plan_enqueue_4 : decode b_Plan_enqueue 4 = .ok (.iload_n 1, 1) := by decide +kernel
theorem d_Plan_enqueue_5 : decode b_Plan_enqueue 5 = .ok (.iaload, 1) := by decide +kernel
theorem d_Plan_enqueue_6 : decode b_Plan_enqueue 6 = .ok (.iconst (-1), 1) := by decide +kernel
theorem d_Plan_enqueue_7 : decode b_Plan_enqueue 7 = .ok (.if_icmp .ne 39, 3) := by decide +kernel
theorem d_Plan_enqueue_10 : decode b_Plan_enqueue 10 = .ok (.aload_n 0, 1) := by decide +kernel
theorem d_Plan_enqueue_11 : decode b_Plan_enqueue 11 = .ok (.getfield 167, 3) := by decide +kernel
theorem d_Plan_enqueue_14 : decode b_Plan_enqueue 14 = .ok (.bipush 21, 2) := by decide +kernel
theorem d_Plan_enqueue_16 : decode b_Plan_enqueue 16 = .ok (.if_icmp .ge 30, 3) := by decide +kernel
theorem d_Plan_enqueue_19 : decode b_Plan_enqueue 19 = .ok (.aload_n 0, 1) := by decide +kernel
theorem d_Plan_enqueue_20 : decode b_Plan_enqueue 20 = .ok (.getfield 33, 3) := by decide +kernel
theorem d_Plan_enqueue_23 : decode b_Plan_enqueue 23 = .ok (.iload_n 1, 1) := by decide +kernel
theorem d_Plan_enqueue_24 : decode b_Plan_enqueue 24 = .ok (.iload_n 2, 1) := by decide +kernel
theorem d_Plan_enqueue_25 : decode b_Plan_enqueue 25 = .ok (.iastore, 1) := by decide +kernel
theorem d_Plan_enqueue_26 : decode b_Plan_enqueue 26 = .ok (.aload_n 0, 1) := by decide +kernel
theorem d_Plan_enqueue_27 : decode b_Plan_enqueue 27 = .ok (.getfield 37, 3) := by decide +kernel
theorem d_Plan_enqueue_30 : decode b_Plan_enqueue 30 = .ok (.aload_n 0, 1) := by decide +kernel
theorem d_Plan_enqueue_31 : decode b_Plan_enqueue 31 = .ok (.getfield 167, 3) := by decide +kernel
theorem d_Plan_enqueue_34 : decode b_Plan_enqueue 34 = .ok (.iload_n 1, 1) := by decide +kernel
theorem d_Plan_enqueue_35 : decode b_Plan_enqueue 35 = .ok (.iastore, 1) := by decide +kernel
theorem d_Plan_enqueue_36 : decode b_Plan_enqueue 36 = .ok (.aload_n 0, 1) := by decide +kernel
theorem d_Plan_enqueue_37 : decode b_Plan_enqueue 37 = .ok (.dup, 1) := by decide +kernel
theorem d_Plan_enqueue_38 : decode b_Plan_enqueue 38 = .ok (.getfield 167, 3) := by decide +kernel
theorem d_Plan_enqueue_41 : decode b_Plan_enqueue 41 = .ok (.iconst 1, 1) := by decide +kernel
theorem d_Plan_enqueue_42 : decode b_Plan_enqueue 42 = .ok (.iadd, 1) := by decide +kernel
theorem d_Plan_enqueue_43 : decode b_Plan_enqueue 43 = .ok (.putfield 167, 3) := by decide +kernel
theorem d_Plan_enqueue_46 : decode b_Plan_enqueue 46 = .ok (.return_, 1) := by decide +kernel
def w_P (cI cJ cZ : ClassId) (a : Nat → Nat) (V0 : Nat) (V1 : Nat) (V2 : Nat) (N0 : Nat → Nat) (L0 : Nat → Int64) (L1 : Nat → Int64) (L2 : Nat → Int64) (L3 : Nat → Int64) (L4 : Nat → Int64) (I0 : Nat → Int32) (I1 : Nat → Int32) (aS : Nat → Nat) : va_W :=
  [(a 0, .inr (0, [.ref (aS 0), .int (nI V0), .int (nI V1), .ref (a 1), .ref (a 2), .ref (a 3), .ref (a 4), .ref (a 5), .ref (a 6), .ref (a 7), .ref (a 8), .int (nI V2)])),
   (a 1, .inl (cJ, 108, .inr (.inl L0))),
   (a 2, .inl (cJ, 108, .inr (.inl L1))),
   (a 3, .inl (cJ, 12, .inr (.inl L2))),
   (a 4, .inl (cJ, 9, .inr (.inl L3))),
   (a 5, .inl (cJ, 21, .inr (.inl L4))),
   (a 6, .inl (cZ, 21, .inl I0)),
   (a 7, .inl (cI, 21, .inl I1)),
   (a 8, .inl (cI, 21, .inl (fun j => nI (N0 j))))]
def f_Plan_amount (LP1 : Nat → Int64) (x1 : Nat) (x2 : Nat) : Int64 :=
  (LP1 ((x1 * 9) + x2))
set_option maxHeartbeats 4000000 in
set_option maxRecDepth 100000 in
theorem c_Plan_amount (l : Launch) (dC : Nat → ClassId) (dI : Nat → Nat → Nat) (cI cJ cZ : ClassId) (sz : Nat) (aP : Nat → Nat) (VP0 : Nat) (VP1 : Nat) (VP2 : Nat) (NP0 : Nat → Nat) (LP0 : Nat → Int64) (LP1 : Nat → Int64) (LP2 : Nat → Int64) (LP3 : Nat → Int64) (LP4 : Nat → Int64) (IP0 : Nat → Int32) (IP1 : Nat → Int32) (aS : Nat → Nat) (VS0 : Nat) (VS1 : Nat) (VS2 : Nat) (NS0 : Nat → Nat) (NS1 : Nat → Nat) (NS2 : Nat → Nat) (LS0 : Nat → Int64) (LS1 : Nat → Int64) (LS2 : Nat → Int64) (LS3 : Nat → Int64) (LS4 : Nat → Int64) (LS5 : Nat → Int64) (LS6 : Nat → Int64) (LS7 : Nat → Int64) (LS8 : Nat → Int64) (IS0 : Nat → Int32) (aY : Nat → Nat) (VY0 : Nat) (LY0 : Nat → Int64) (LY1 : Nat → Int64) (LY2 : Nat → Int64) (IY0 : Nat → Int32) (x1 : Nat) (x2 : Nat) (hx1 : x1 < 12) (hx2 : x2 < 9) : hh_Cl l y_Plan_amount u_Plan_amount ({ frames := 0, cells := 0, slots := 0, locals := 0 }) (dC, dI) vwCl [(cI, .int), (cJ, .long), (cZ, .boolean)] (w_P cI cJ cZ aP VP0 VP1 VP2 NP0 LP0 LP1 LP2 LP3 LP4 IP0 IP1 aS ++ w_S cI cJ cZ aS VS0 VS1 VS2 NS0 NS1 NS2 LS0 LS1 LS2 LS3 LS4 LS5 LS6 LS7 LS8 IS0 aY ++ w_Y cI cJ cZ aY VY0 LY0 LY1 LY2 IY0) sz [.ref (aP 0), .int (nI x1), .int (nI x2)] (f_Plan_amount LP1 x1 x2) (w_P cI cJ cZ aP VP0 VP1 VP2 NP0 LP0 LP1 LP2 LP3 LP4 IP0 IP1 aS ++ w_S cI cJ cZ aS VS0 VS1 VS2 NS0 NS1 NS2 LS0 LS1 LS2 LS3 LS4 LS5 LS6 LS7 LS8 IS0 aY ++ w_Y cI cJ cZ aY VY0 LY0 LY1 LY2 IY0) 0 0 := by
  unfold hh_Cl
  refine Met.ofW (cc := b_Plan_amount) (maxL := 3) (ret := (some .long)) (by decide) rfl ?_
  intro p e s m args below meth c s₁ B hml hv
  obtain ⟨rfl, hsz, hP, hK, hD0⟩ := hv
  have hx := B.exec
  have hb := B.bytes
  have hr := B.returns
  have hts := atoms_spec (ws := u_Plan_amount) B.pre
  have hG : ∀ w ∈ wG, w.before ([.ref (aP 0), .int (nI x1), .int (nI x2)]).toArray s = true := fun w h => hts w (List.mem_cons_of_mem _ h)
  have hown : s.vm.findClass R_Plan = some m.cls := findClass_of_methodNamed B.named
  have hlocks := B.notSynchronized
  subst hsz
  have hD := hD0.self (sz := s.heap.size)
  generalize hAe : va_A (w_P cI cJ cZ aP VP0 VP1 VP2 NP0 LP0 LP1 LP2 LP3 LP4 IP0 IP1 aS ++ w_S cI cJ cZ aS VS0 VS1 VS2 NS0 NS1 NS2 LS0 LS1 LS2 LS3 LS4 LS5 LS6 LS7 LS8 IS0 aY ++ w_Y cI cJ cZ aY VY0 LY0 LY1 LY2 IY0) s.heap.size = A at hD ⊢
  have hA : ∀ q : Nat, s.heap.size ≤ q → A q := fun q h => by rw [← hAe]; exact Or.inr h
  have hS : va_S A s.heap s.heap [] := va_S.rf
  have hl := lv_entry ([.ref (aP 0), .int (nI x1), .int (nI x2)]) (n := 3) (Nat.le_of_ble_eq_true rfl)
  rw [lg_entry_eq]
  generalize (lg_sl ([.ref (aP 0), .int (nI x1), .int (nI x2)]) ++ List.replicate (3 - (lg_sl ([.ref (aP 0), .int (nI x1), .int (nI x2)])).length) Slot.unset).toArray = ls at hl ⊢
  have hl : lv_has ls 3 [(0, .ref (aP 0)), (1, .int (nI x1)), (2, .int (nI x2))] := hl
  generalize hR : f_Plan_amount LP1 x1 x2 = r0
  obtain ⟨H, locs, hHe, hle⟩ : ∃ (H : Heap) (locs : List Loc), s.heap = H ∧ [] = locs := ⟨_, _, rfl, rfl⟩
  have hP : va_P (dC, dI) vwCl (w_P cI cJ cZ aP VP0 VP1 VP2 NP0 LP0 LP1 LP2 LP3 LP4 IP0 IP1 aS ++ w_S cI cJ cZ aS VS0 VS1 VS2 NS0 NS1 NS2 LS0 LS1 LS2 LS3 LS4 LS5 LS6 LS7 LS8 IS0 aY ++ w_Y cI cJ cZ aY VY0 LY0 LY1 LY2 IY0) H := by rw [← hHe]; exact hP
  have hS : va_S A s.heap H locs := by rw [← hHe, ← hle]; exact hS
  refine hw_start hHe hle ?_
  unfold f_Plan_amount at hR
  refine lv_aload_n hx hb d_Plan_amount_0 rfl (lv_at hl 0 rfl) ?_
  refine va_get (D := (dC, dI)) (ci := 0) (v := .ref (aP 2)) (C := R_Plan) (T := T_Plan) (N := 12) hx hb hG in_Plan hown hK hP 0 rfl rfl 4 (by decide) (hG _ m_135) (fun _ h9 => h9) rfl d_Plan_amount_1 ?_
  refine lv_iload_n hx hb d_Plan_amount_4 rfl (lv_at hl 1 rfl) ?_
  refine lv_bipush (v := nI 9) hx hb d_Plan_amount_5 (by decide) ?_
  refine hw_imul hx hb d_Plan_amount_7 ?_
  refine lv_iload_n hx hb d_Plan_amount_8 rfl (lv_at hl 2 rfl) ?_
  refine hw_iadd hx hb d_Plan_amount_9 ?_
  refine hw_lald (f := LP1) hx hb hK hP 2 1 rfl rfl (by decide) (by omega) d_Plan_amount_10 ?_
  subst hR
  exact W.lret (v := LP1 ((x1 * 9) + x2)) hx hb hr (fun t ht hW => ⟨⟨_, (), rfl, rfl, by rw [ht]; exact hP, va_K.moved hW.alike hK, hD⟩, hS.F ht⟩) hS.2.2 d_Plan_amount_11
def f_Plan_price (LP0 : Nat → Int64) (LP1 : Nat → Int64) (x1 : Nat) (x2 : Nat) : Int64 :=
  ((LP1 ((x1 * 9) + x2)) * (LP0 ((x1 * 9) + x2)))
set_option maxHeartbeats 4000000 in
set_option maxRecDepth 100000 in
theorem c_Plan_price (l : Launch) (dC : Nat → ClassId) (dI : Nat → Nat → Nat) (cI cJ cZ : ClassId) (sz : Nat) (aP : Nat → Nat) (VP0 : Nat) (VP1 : Nat) (VP2 : Nat) (NP0 : Nat → Nat) (LP0 : Nat → Int64) (LP1 : Nat → Int64) (LP2 : Nat → Int64) (LP3 : Nat → Int64) (LP4 : Nat → Int64) (IP0 : Nat → Int32) (IP1 : Nat → Int32) (aS : Nat → Nat) (VS0 : Nat) (VS1 : Nat) (VS2 : Nat) (NS0 : Nat → Nat) (NS1 : Nat → Nat) (NS2 : Nat → Nat) (LS0 : Nat → Int64) (LS1 : Nat → Int64) (LS2 : Nat → Int64) (LS3 : Nat → Int64) (LS4 : Nat → Int64) (LS5 : Nat → Int64) (LS6 : Nat → Int64) (LS7 : Nat → Int64) (LS8 : Nat → Int64) (IS0 : Nat → Int32) (aY : Nat → Nat) (VY0 : Nat) (LY0 : Nat → Int64) (LY1 : Nat → Int64) (LY2 : Nat → Int64) (IY0 : Nat → Int32) (x1 : Nat) (x2 : Nat) (hx1 : x1 < 12) (hx2 : x2 < 9) : hh_Cl l y_Plan_price u_Plan_price ({ frames := 0, cells := 0, slots := 0, locals := 0 }) (dC, dI) vwCl [(cI, .int), (cJ, .long), (cZ, .boolean)] (w_P cI cJ cZ aP VP0 VP1 VP2 NP0 LP0 LP1 LP2 LP3 LP4 IP0 IP1 aS ++ w_S cI cJ cZ aS VS0 VS1 VS2 NS0 NS1 NS2 LS0 LS1 LS2 LS3 LS4 LS5 LS6 LS7 LS8 IS0 aY ++ w_Y cI cJ cZ aY VY0 LY0 LY1 LY2 IY0) sz [.ref (aP 0), .int (nI x1), .int (nI x2)] (f_Plan_price LP0 LP1 x1 x2) (w_P cI cJ cZ aP VP0 VP1 VP2 NP0 LP0 LP1 LP2 LP3 LP4 IP0 IP1 aS ++ w_S cI cJ cZ aS VS0 VS1 VS2 NS0 NS1 NS2 LS0 LS1 LS2 LS3 LS4 LS5 LS6 LS7 LS8 IS0 aY ++ w_Y cI cJ cZ aY VY0 LY0 LY1 LY2 IY0) 0 0 := by
  unfold hh_Cl
  refine Met.ofW (cc := b_Plan_price) (maxL := 4) (ret := (some .long)) (by decide) rfl ?_
  intro p e s m args below meth c s₁ B hml hv
  obtain ⟨rfl, hsz, hP, hK, hD0⟩ := hv
  have hx := B.exec
  have hb := B.bytes
  have hr := B.returns
  have hts := atoms_spec (ws := u_Plan_price) B.pre
  have hG : ∀ w ∈ wG, w.before ([.ref (aP 0), .int (nI x1), .int (nI x2)]).toArray s = true := fun w h => hts w (List.mem_cons_of_mem _ h)
  have hown : s.vm.findClass R_Plan = some m.cls := findClass_of_methodNamed B.named
  have hlocks := B.notSynchronized
  subst hsz
  have hD := hD0.self (sz := s.heap.size)
  generalize hAe : va_A (w_P cI cJ cZ aP VP0 VP1 VP2 NP0 LP0 LP1 LP2 LP3 LP4 IP0 IP1 aS ++ w_S cI cJ cZ aS VS0 VS1 VS2 NS0 NS1 NS2 LS0 LS1 LS2 LS3 LS4 LS5 LS6 LS7 LS8 IS0 aY ++ w_Y cI cJ cZ aY VY0 LY0 LY1 LY2 IY0) s.heap.size = A at hD ⊢
  have hA : ∀ q : Nat, s.heap.size ≤ q → A q := fun q h => by rw [← hAe]; exact Or.inr h
  have hS : va_S A s.heap s.heap [] := va_S.rf
  have hl := lv_entry ([.ref (aP 0), .int (nI x1), .int (nI x2)]) (n := 4) (Nat.le_of_ble_eq_true rfl)
  rw [lg_entry_eq]
  generalize (lg_sl ([.ref (aP 0), .int (nI x1), .int (nI x2)]) ++ List.replicate (4 - (lg_sl ([.ref (aP 0), .int (nI x1), .int (nI x2)])).length) Slot.unset).toArray = ls at hl ⊢
  have hl : lv_has ls 4 [(0, .ref (aP 0)), (1, .int (nI x1)), (2, .int (nI x2))] := hl
  generalize hR : f_Plan_price LP0 LP1 x1 x2 = r0
  obtain ⟨H, locs, hHe, hle⟩ : ∃ (H : Heap) (locs : List Loc), s.heap = H ∧ [] = locs := ⟨_, _, rfl, rfl⟩
  have hP : va_P (dC, dI) vwCl (w_P cI cJ cZ aP VP0 VP1 VP2 NP0 LP0 LP1 LP2 LP3 LP4 IP0 IP1 aS ++ w_S cI cJ cZ aS VS0 VS1 VS2 NS0 NS1 NS2 LS0 LS1 LS2 LS3 LS4 LS5 LS6 LS7 LS8 IS0 aY ++ w_Y cI cJ cZ aY VY0 LY0 LY1 LY2 IY0) H := by rw [← hHe]; exact hP
  have hS : va_S A s.heap H locs := by rw [← hHe, ← hle]; exact hS
  refine hw_start hHe hle ?_
  unfold f_Plan_price at hR
  refine lv_iload_n hx hb d_Plan_price_0 rfl (lv_at hl 1 rfl) ?_
  refine lv_bipush (v := nI 9) hx hb d_Plan_price_1 (by decide) ?_
  refine hw_imul hx hb d_Plan_price_3 ?_
  refine lv_iload_n hx hb d_Plan_price_4 rfl (lv_at hl 2 rfl) ?_
  refine hw_iadd hx hb d_Plan_price_5 ?_
  refine lv_istore_n (lv' := [(3, .int (nI ((x1 * 9) + x2))), (0, .ref (aP 0)), (1, .int (nI x1)), (2, .int (nI x2))]) hx hb d_Plan_price_6 rfl hl (by decide) rfl (fun ls hl => ?_)
  refine lv_aload_n hx hb d_Plan_price_7 rfl (lv_at hl 1 rfl) ?_
  refine va_get (D := (dC, dI)) (ci := 0) (v := .ref (aP 2)) (C := R_Plan) (T := T_Plan) (N := 12) hx hb hG in_Plan hown hK hP 0 rfl rfl 4 (by decide) (hG _ m_135) (fun _ h9 => h9) rfl d_Plan_price_8 ?_
  refine lv_iload_n hx hb d_Plan_price_11 rfl (lv_at hl 0 rfl) ?_
  refine hw_lald (f := LP1) hx hb hK hP 2 1 rfl rfl (by decide) (by omega) d_Plan_price_12 ?_
  refine lv_aload_n hx hb d_Plan_price_13 rfl (lv_at hl 1 rfl) ?_
  refine va_get (D := (dC, dI)) (ci := 0) (v := .ref (aP 1)) (C := R_Plan) (T := T_Plan) (N := 12) hx hb hG in_Plan hown hK hP 0 rfl rfl 3 (by decide) (hG _ m_134) (fun _ h9 => h9) rfl d_Plan_price_14 ?_
  refine lv_iload_n hx hb d_Plan_price_17 rfl (lv_at hl 0 rfl) ?_
  refine hw_lald (f := LP0) hx hb hK hP 1 1 rfl rfl (by decide) (by omega) d_Plan_price_18 ?_
  refine lv_lmul hx hb d_Plan_price_19 ?_
  subst hR
  exact W.lret (v := (LP1 ((x1 * 9) + x2)) * (LP0 ((x1 * 9) + x2))) hx hb hr (fun t ht hW => ⟨⟨_, (), rfl, rfl, by rw [ht]; exact hP, va_K.moved hW.alike hK, hD⟩, hS.F ht⟩) hS.2.2 d_Plan_price_20
def f_Plan_totalPrice_h15B (VP1 : Nat) (LP0 : Nat → Int64) (LP1 : Nat → Int64) (x3_4 : Nat) (k_15 : (Int64) → (Nat) → Int64) (rec_15 : (Int64) → (Nat) → Int64) (x1_15 : Int64) (x4_15 : Nat) : Int64 :=
  if VP1 ≤ x4_15 then (k_15 x1_15 x4_15) else (hh_bind (f_Plan_price LP0 LP1 x3_4 x4_15) (fun y29 => rec_15 (x1_15 + y29) (x4_15 + 1)))
def f_Plan_totalPrice_h15 (VP1 : Nat) (LP0 : Nat → Int64) (LP1 : Nat → Int64) (x3_4 : Nat) (k_15 : (Int64) → (Nat) → Int64) : Nat → (Int64) → (Nat) → Int64
  | 0, x1_15, x4_15 => k_15 x1_15 x4_15
  | n + 1, x1_15, x4_15 => f_Plan_totalPrice_h15B VP1 LP0 LP1 x3_4 k_15 (fun x1_15 x4_15 => f_Plan_totalPrice_h15 VP1 LP0 LP1 x3_4 k_15 n x1_15 x4_15) x1_15 x4_15
def f_Plan_totalPrice_x15 (rec_4 : (Int64) → (Nat) → Int64) (x3_4 : Nat) (x1_15 : Int64) (x4_15 : Nat) : Int64 :=
  rec_4 x1_15 (x3_4 + 1)
def f_Plan_totalPrice_h4B (VP0 : Nat) (VP1 : Nat) (LP0 : Nat → Int64) (LP1 : Nat → Int64) (k_4 : (Int64) → (Nat) → Int64) (rec_4 : (Int64) → (Nat) → Int64) (x1_4 : Int64) (x3_4 : Nat) : Int64 :=
  if VP0 ≤ x3_4 then (k_4 x1_4 x3_4) else (f_Plan_totalPrice_h15 VP1 LP0 LP1 x3_4 (f_Plan_totalPrice_x15 rec_4 x3_4) 9 x1_4 0)
def f_Plan_totalPrice_h4 (VP0 : Nat) (VP1 : Nat) (LP0 : Nat → Int64) (LP1 : Nat → Int64) (k_4 : (Int64) → (Nat) → Int64) : Nat → (Int64) → (Nat) → Int64
  | 0, x1_4, x3_4 => k_4 x1_4 x3_4
  | n + 1, x1_4, x3_4 => f_Plan_totalPrice_h4B VP0 VP1 LP0 LP1 k_4 (fun x1_4 x3_4 => f_Plan_totalPrice_h4 VP0 VP1 LP0 LP1 k_4 n x1_4 x3_4) x1_4 x3_4
def f_Plan_totalPrice_x4  (x1_4 : Int64) (x3_4 : Nat) : Int64 :=
  (x1_4)
def f_Plan_totalPrice (VP0 : Nat) (VP1 : Nat) (LP0 : Nat → Int64) (LP1 : Nat → Int64) : Int64 :=
  f_Plan_totalPrice_h4 VP0 VP1 LP0 LP1 f_Plan_totalPrice_x4 13 0 0
set_option maxHeartbeats 4000000 in
set_option maxRecDepth 100000 in
theorem c_Plan_totalPrice (l : Launch) (dC : Nat → ClassId) (dI : Nat → Nat → Nat) (cI cJ cZ : ClassId) (sz : Nat) (aP : Nat → Nat) (VP0 : Nat) (VP1 : Nat) (VP2 : Nat) (NP0 : Nat → Nat) (LP0 : Nat → Int64) (LP1 : Nat → Int64) (LP2 : Nat → Int64) (LP3 : Nat → Int64) (LP4 : Nat → Int64) (IP0 : Nat → Int32) (IP1 : Nat → Int32) (aS : Nat → Nat) (VS0 : Nat) (VS1 : Nat) (VS2 : Nat) (NS0 : Nat → Nat) (NS1 : Nat → Nat) (NS2 : Nat → Nat) (LS0 : Nat → Int64) (LS1 : Nat → Int64) (LS2 : Nat → Int64) (LS3 : Nat → Int64) (LS4 : Nat → Int64) (LS5 : Nat → Int64) (LS6 : Nat → Int64) (LS7 : Nat → Int64) (LS8 : Nat → Int64) (IS0 : Nat → Int32) (aY : Nat → Nat) (VY0 : Nat) (LY0 : Nat → Int64) (LY1 : Nat → Int64) (LY2 : Nat → Int64) (IY0 : Nat → Int32) (hs12 : VP0 ≤ 12) (hb8 : VP1 ≤ 8) : hh_Cl l y_Plan_totalPrice u_Plan_totalPrice ({ frames := 1, cells := 0, slots := 0, locals := 23 }) (dC, dI) vwCl [(cI, .int), (cJ, .long), (cZ, .boolean)] (w_P cI cJ cZ aP VP0 VP1 VP2 NP0 LP0 LP1 LP2 LP3 LP4 IP0 IP1 aS ++ w_S cI cJ cZ aS VS0 VS1 VS2 NS0 NS1 NS2 LS0 LS1 LS2 LS3 LS4 LS5 LS6 LS7 LS8 IS0 aY ++ w_Y cI cJ cZ aY VY0 LY0 LY1 LY2 IY0) sz [.ref (aP 0)] (f_Plan_totalPrice VP0 VP1 LP0 LP1) (w_P cI cJ cZ aP VP0 VP1 VP2 NP0 LP0 LP1 LP2 LP3 LP4 IP0 IP1 aS ++ w_S cI cJ cZ aS VS0 VS1 VS2 NS0 NS1 NS2 LS0 LS1 LS2 LS3 LS4 LS5 LS6 LS7 LS8 IS0 aY ++ w_Y cI cJ cZ aY VY0 LY0 LY1 LY2 IY0) 0 0 := by
  unfold hh_Cl
  refine Met.ofW (cc := b_Plan_totalPrice) (maxL := 5) (ret := (some .long)) (by decide) rfl ?_
  intro p e s m args below meth c s₁ B hml hv
  obtain ⟨rfl, hsz, hP, hK, hD0⟩ := hv
  have hx := B.exec
  have hb := B.bytes
  have hr := B.returns
  have hts := atoms_spec (ws := u_Plan_totalPrice) B.pre
  have hG : ∀ w ∈ wG, w.before ([.ref (aP 0)]).toArray s = true := fun w h => hts w (List.mem_cons_of_mem _ h)
  have hown : s.vm.findClass R_Plan = some m.cls := findClass_of_methodNamed B.named
  have hlocks := B.notSynchronized
  subst hsz
  have hD := hD0.self (sz := s.heap.size)
  generalize hAe : va_A (w_P cI cJ cZ aP VP0 VP1 VP2 NP0 LP0 LP1 LP2 LP3 LP4 IP0 IP1 aS ++ w_S cI cJ cZ aS VS0 VS1 VS2 NS0 NS1 NS2 LS0 LS1 LS2 LS3 LS4 LS5 LS6 LS7 LS8 IS0 aY ++ w_Y cI cJ cZ aY VY0 LY0 LY1 LY2 IY0) s.heap.size = A at hD ⊢
  have hA : ∀ q : Nat, s.heap.size ≤ q → A q := fun q h => by rw [← hAe]; exact Or.inr h
  have hS : va_S A s.heap s.heap [] := va_S.rf
  have hl := lv_entry ([.ref (aP 0)]) (n := 5) (Nat.le_of_ble_eq_true rfl)
  rw [lg_entry_eq]
  generalize (lg_sl ([.ref (aP 0)]) ++ List.replicate (5 - (lg_sl ([.ref (aP 0)])).length) Slot.unset).toArray = ls at hl ⊢
  have hl : lv_has ls 5 [(0, .ref (aP 0))] := hl
  generalize hR : f_Plan_totalPrice VP0 VP1 LP0 LP1 = r0
  obtain ⟨H, locs, hHe, hle⟩ : ∃ (H : Heap) (locs : List Loc), s.heap = H ∧ [] = locs := ⟨_, _, rfl, rfl⟩
  have hP : va_P (dC, dI) vwCl (w_P cI cJ cZ aP VP0 VP1 VP2 NP0 LP0 LP1 LP2 LP3 LP4 IP0 IP1 aS ++ w_S cI cJ cZ aS VS0 VS1 VS2 NS0 NS1 NS2 LS0 LS1 LS2 LS3 LS4 LS5 LS6 LS7 LS8 IS0 aY ++ w_Y cI cJ cZ aY VY0 LY0 LY1 LY2 IY0) H := by rw [← hHe]; exact hP
  have hS : va_S A s.heap H locs := by rw [← hHe, ← hle]; exact hS
  refine hw_start hHe hle ?_
  unfold f_Plan_totalPrice at hR
  refine lv_lconst (v := 0) hx hb d_Plan_totalPrice_0 (by decide) ?_
  refine lv_lstore_n (lv' := [(1, .long 0), (0, .ref (aP 0))]) hx hb d_Plan_totalPrice_1 rfl hl (by decide) rfl (fun ls hl => ?_)
  refine lv_iconst (v := nI 0) hx hb d_Plan_totalPrice_2 (by decide) ?_
  refine lv_istore_n (lv' := [(3, .int (nI 0)), (1, .long 0), (0, .ref (aP 0))]) hx hb d_Plan_totalPrice_3 rfl hl (by decide) rfl (fun ls hl => ?_)
  obtain ⟨k_4, hk_4, hR⟩ : ∃ k, f_Plan_totalPrice_x4 = k ∧ f_Plan_totalPrice_h4 VP0 VP1 LP0 LP1 k 13 0 0 = r0 := ⟨_, rfl, hR⟩
  have X_4 : ∀ (x1_4 : Int64) (x3_4 : Nat) (hi : x3_4 ≤ (VP0)) (H : Heap) (locs : List Loc) (hP : va_P (dC, dI) vwCl (w_P cI cJ cZ aP VP0 VP1 VP2 NP0 LP0 LP1 LP2 LP3 LP4 IP0 IP1 aS ++ w_S cI cJ cZ aS VS0 VS1 VS2 NS0 NS1 NS2 LS0 LS1 LS2 LS3 LS4 LS5 LS6 LS7 LS8 IS0 aY ++ w_Y cI cJ cZ aY VY0 LY0 LY1 LY2 IY0) H) (hD : va_D A (w_P cI cJ cZ aP VP0 VP1 VP2 NP0 LP0 LP1 LP2 LP3 LP4 IP0 IP1 aS ++ w_S cI cJ cZ aS VS0 VS1 VS2 NS0 NS1 NS2 LS0 LS1 LS2 LS3 LS4 LS5 LS6 LS7 LS8 IS0 aY ++ w_Y cI cJ cZ aY VY0 LY0 LY1 LY2 IY0)) (hS : va_S A s.heap H locs) (ls : Array Slot) (hl : lv_has ls 5 [(0, .ref (aP 0)), (1, .long x1_4), (3, .int (nI x3_4))]) (hR : k_4 x1_4 x3_4 = r0), W p l e (headSpec u_Plan_totalPrice ({ frames := 1, cells := 0, slots := 0, locals := 23 })).room s m ([.ref (aP 0)]).toArray below meth c H locs 0 0 (hh_Zl below (dC, dI) vwCl [(cI, .int), (cJ, .long), (cZ, .boolean)] A r0 (w_P cI cJ cZ aP VP0 VP1 VP2 NP0 LP0 LP1 LP2 LP3 LP4 IP0 IP1 aS ++ w_S cI cJ cZ aS VS0 VS1 VS2 NS0 NS1 NS2 LS0 LS1 LS2 LS3 LS4 LS5 LS6 LS7 LS8 IS0 aY ++ w_Y cI cJ cZ aY VY0 LY0 LY1 LY2 IY0) ([.ref (aP 0)]).toArray s) (F0 m 46 ls []) := by
    intro x1_4 x3_4 hi H locs hP hD hS ls hl hR
    rw [← hk_4] at hR
    unfold f_Plan_totalPrice_x4 at hR
    refine lv_lload_n hx hb d_Plan_totalPrice_46 rfl (lv_at hl 1 rfl) ?_
    subst hR
    exact W.lret (v := x1_4) hx hb hr (fun t ht hW => ⟨⟨_, (), rfl, rfl, by rw [ht]; exact hP, va_K.moved hW.alike hK, hD⟩, hS.F ht⟩) hS.2.2 d_Plan_totalPrice_47
  have L_4 : ∀ (n : Nat) (x1_4 : Int64) (x3_4 : Nat) (hi : x3_4 ≤ (VP0)) (hfu : (VP0) - x3_4 < n) (H : Heap) (locs : List Loc) (hP : va_P (dC, dI) vwCl (w_P cI cJ cZ aP VP0 VP1 VP2 NP0 LP0 LP1 LP2 LP3 LP4 IP0 IP1 aS ++ w_S cI cJ cZ aS VS0 VS1 VS2 NS0 NS1 NS2 LS0 LS1 LS2 LS3 LS4 LS5 LS6 LS7 LS8 IS0 aY ++ w_Y cI cJ cZ aY VY0 LY0 LY1 LY2 IY0) H) (hD : va_D A (w_P cI cJ cZ aP VP0 VP1 VP2 NP0 LP0 LP1 LP2 LP3 LP4 IP0 IP1 aS ++ w_S cI cJ cZ aS VS0 VS1 VS2 NS0 NS1 NS2 LS0 LS1 LS2 LS3 LS4 LS5 LS6 LS7 LS8 IS0 aY ++ w_Y cI cJ cZ aY VY0 LY0 LY1 LY2 IY0)) (hS : va_S A s.heap H locs) (ls : Array Slot) (hl : lv_has ls 5 [(0, .ref (aP 0)), (1, .long x1_4), (3, .int (nI x3_4))]) (hR : f_Plan_totalPrice_h4 VP0 VP1 LP0 LP1 k_4 n x1_4 x3_4 = r0), W p l e (headSpec u_Plan_totalPrice ({ frames := 1, cells := 0, slots := 0, locals := 23 })).room s m ([.ref (aP 0)]).toArray below meth c H locs 0 0 (hh_Zl below (dC, dI) vwCl [(cI, .int), (cJ, .long), (cZ, .boolean)] A r0 (w_P cI cJ cZ aP VP0 VP1 VP2 NP0 LP0 LP1 LP2 LP3 LP4 IP0 IP1 aS ++ w_S cI cJ cZ aS VS0 VS1 VS2 NS0 NS1 NS2 LS0 LS1 LS2 LS3 LS4 LS5 LS6 LS7 LS8 IS0 aY ++ w_Y cI cJ cZ aY VY0 LY0 LY1 LY2 IY0) ([.ref (aP 0)]).toArray s) (F0 m 4 ls []) := by
    intro n
    induction n with
    | zero =>
      intro x1_4 x3_4 hi hfu H locs hP hD hS ls hl hR
      exact absurd hfu (Nat.not_lt_zero _)
    | succ n ih_4 =>
      intro x1_4 x3_4 hi hfu H locs hP hD hS ls hl hR
      rw [f_Plan_totalPrice_h4] at hR
      obtain ⟨rec_4, hrec_4, hR⟩ : ∃ r, r = _ ∧ f_Plan_totalPrice_h4B VP0 VP1 LP0 LP1 k_4 r x1_4 x3_4 = r0 := ⟨_, rfl, hR⟩
      unfold f_Plan_totalPrice_h4B at hR
      refine lv_iload_n hx hb d_Plan_totalPrice_4 rfl (lv_at hl 2 rfl) ?_
      refine lv_aload_n hx hb d_Plan_totalPrice_5 rfl (lv_at hl 0 rfl) ?_
      refine va_get (D := (dC, dI)) (ci := 0) (v := .int (nI VP0)) (C := R_Plan) (T := T_Plan) (N := 12) hx hb hG in_Plan hown hK hP 0 rfl rfl 1 (by decide) (hG _ m_132) (fun _ h9 => h9) rfl d_Plan_totalPrice_6 ?_
      refine hw_icmp_ge (tgt := 46) hx hb d_Plan_totalPrice_9 (by decide) (by omega) (by omega) (fun c9 => ?_) (fun c9 => ?_)
      · replace hR := (if_pos c9).symm.trans hR
        exact X_4 x1_4 x3_4 (by first | assumption | omega | exact hw_upb (by assumption) (by omega)) H locs hP hD hS ls (lv_sub hl [0, 1, 2] rfl) hR
      · replace hR := (if_neg c9).symm.trans hR
        refine lv_iconst (v := nI 0) hx hb d_Plan_totalPrice_12 (by decide) ?_
        refine lv_istore (lv' := [(4, .int (nI 0)), (0, .ref (aP 0)), (1, .long x1_4), (3, .int (nI x3_4))]) hx hb d_Plan_totalPrice_13 hl (by decide) rfl (fun ls hl => ?_)
        obtain ⟨k_15, hk_15, hR⟩ : ∃ k, (f_Plan_totalPrice_x15 rec_4 x3_4) = k ∧ f_Plan_totalPrice_h15 VP1 LP0 LP1 x3_4 k 9 x1_4 0 = r0 := ⟨_, rfl, hR⟩
        have X_15 : ∀ (x1_15 : Int64) (x4_15 : Nat) (hi : x4_15 ≤ (VP1)) (H : Heap) (locs : List Loc) (hP : va_P (dC, dI) vwCl (w_P cI cJ cZ aP VP0 VP1 VP2 NP0 LP0 LP1 LP2 LP3 LP4 IP0 IP1 aS ++ w_S cI cJ cZ aS VS0 VS1 VS2 NS0 NS1 NS2 LS0 LS1 LS2 LS3 LS4 LS5 LS6 LS7 LS8 IS0 aY ++ w_Y cI cJ cZ aY VY0 LY0 LY1 LY2 IY0) H) (hD : va_D A (w_P cI cJ cZ aP VP0 VP1 VP2 NP0 LP0 LP1 LP2 LP3 LP4 IP0 IP1 aS ++ w_S cI cJ cZ aS VS0 VS1 VS2 NS0 NS1 NS2 LS0 LS1 LS2 LS3 LS4 LS5 LS6 LS7 LS8 IS0 aY ++ w_Y cI cJ cZ aY VY0 LY0 LY1 LY2 IY0)) (hS : va_S A s.heap H locs) (ls : Array Slot) (hl : lv_has ls 5 [(0, .ref (aP 0)), (1, .long x1_15), (3, .int (nI x3_4)), (4, .int (nI x4_15))]) (hR : k_15 x1_15 x4_15 = r0), W p l e (headSpec u_Plan_totalPrice ({ frames := 1, cells := 0, slots := 0, locals := 23 })).room s m ([.ref (aP 0)]).toArray below meth c H locs 0 0 (hh_Zl below (dC, dI) vwCl [(cI, .int), (cJ, .long), (cZ, .boolean)] A r0 (w_P cI cJ cZ aP VP0 VP1 VP2 NP0 LP0 LP1 LP2 LP3 LP4 IP0 IP1 aS ++ w_S cI cJ cZ aS VS0 VS1 VS2 NS0 NS1 NS2 LS0 LS1 LS2 LS3 LS4 LS5 LS6 LS7 LS8 IS0 aY ++ w_Y cI cJ cZ aY VY0 LY0 LY1 LY2 IY0) ([.ref (aP 0)]).toArray s) (F0 m 40 ls []) := by
          intro x1_15 x4_15 hi H locs hP hD hS ls hl hR
          rw [← hk_15] at hR
          unfold f_Plan_totalPrice_x15 at hR
          refine lv_iinc (v := nI (x3_4 + 1)) (lv' := [(3, .int (nI (x3_4 + 1))), (0, .ref (aP 0)), (1, .long x1_15), (4, .int (nI x4_15))]) hx hb d_Plan_totalPrice_40 hl (k := 2) rfl (hw_inc _ 1) (by decide) rfl (fun ls hl => ?_)
          refine lv_goto (tgt := 4) hx hb d_Plan_totalPrice_43 (by decide) ?_
          rw [hrec_4] at hR
          exact ih_4 x1_15 (x3_4 + 1) (by first | assumption | omega | exact hw_upb (by assumption) (by omega)) (by omega) H locs hP hD hS ls (lv_sub hl [1, 2, 0] rfl) hR
        have L_15 : ∀ (n : Nat) (x1_15 : Int64) (x4_15 : Nat) (hi : x4_15 ≤ (VP1)) (hfu : (VP1) - x4_15 < n) (H : Heap) (locs : List Loc) (hP : va_P (dC, dI) vwCl (w_P cI cJ cZ aP VP0 VP1 VP2 NP0 LP0 LP1 LP2 LP3 LP4 IP0 IP1 aS ++ w_S cI cJ cZ aS VS0 VS1 VS2 NS0 NS1 NS2 LS0 LS1 LS2 LS3 LS4 LS5 LS6 LS7 LS8 IS0 aY ++ w_Y cI cJ cZ aY VY0 LY0 LY1 LY2 IY0) H) (hD : va_D A (w_P cI cJ cZ aP VP0 VP1 VP2 NP0 LP0 LP1 LP2 LP3 LP4 IP0 IP1 aS ++ w_S cI cJ cZ aS VS0 VS1 VS2 NS0 NS1 NS2 LS0 LS1 LS2 LS3 LS4 LS5 LS6 LS7 LS8 IS0 aY ++ w_Y cI cJ cZ aY VY0 LY0 LY1 LY2 IY0)) (hS : va_S A s.heap H locs) (ls : Array Slot) (hl : lv_has ls 5 [(0, .ref (aP 0)), (1, .long x1_15), (3, .int (nI x3_4)), (4, .int (nI x4_15))]) (hR : f_Plan_totalPrice_h15 VP1 LP0 LP1 x3_4 k_15 n x1_15 x4_15 = r0), W p l e (headSpec u_Plan_totalPrice ({ frames := 1, cells := 0, slots := 0, locals := 23 })).room s m ([.ref (aP 0)]).toArray below meth c H locs 0 0 (hh_Zl below (dC, dI) vwCl [(cI, .int), (cJ, .long), (cZ, .boolean)] A r0 (w_P cI cJ cZ aP VP0 VP1 VP2 NP0 LP0 LP1 LP2 LP3 LP4 IP0 IP1 aS ++ w_S cI cJ cZ aS VS0 VS1 VS2 NS0 NS1 NS2 LS0 LS1 LS2 LS3 LS4 LS5 LS6 LS7 LS8 IS0 aY ++ w_Y cI cJ cZ aY VY0 LY0 LY1 LY2 IY0) ([.ref (aP 0)]).toArray s) (F0 m 15 ls []) := by
          intro n
          induction n with
          | zero =>
            intro x1_15 x4_15 hi hfu H locs hP hD hS ls hl hR
            exact absurd hfu (Nat.not_lt_zero _)
          | succ n ih_15 =>
            intro x1_15 x4_15 hi hfu H locs hP hD hS ls hl hR
            rw [f_Plan_totalPrice_h15] at hR
            obtain ⟨rec_15, hrec_15, hR⟩ : ∃ r, r = _ ∧ f_Plan_totalPrice_h15B VP1 LP0 LP1 x3_4 k_15 r x1_15 x4_15 = r0 := ⟨_, rfl, hR⟩
            unfold f_Plan_totalPrice_h15B at hR
            refine lv_iload hx hb d_Plan_totalPrice_15 (lv_at hl 3 rfl) ?_
            refine lv_aload_n hx hb d_Plan_totalPrice_17 rfl (lv_at hl 0 rfl) ?_
            refine va_get (D := (dC, dI)) (ci := 0) (v := .int (nI VP1)) (C := R_Plan) (T := T_Plan) (N := 12) hx hb hG in_Plan hown hK hP 0 rfl rfl 2 (by decide) (hG _ m_133) (fun _ h9 => h9) rfl d_Plan_totalPrice_18 ?_
            refine hw_icmp_ge (tgt := 40) hx hb d_Plan_totalPrice_21 (by decide) (by omega) (by omega) (fun c21 => ?_) (fun c21 => ?_)
            · replace hR := (if_pos c21).symm.trans hR
              exact X_15 x1_15 x4_15 (by first | assumption | omega | exact hw_upb (by assumption) (by omega)) H locs hP hD hS ls (lv_sub hl [0, 1, 2, 3] rfl) hR
            · replace hR := (if_neg c21).symm.trans hR
              refine lv_lload_n hx hb d_Plan_totalPrice_24 rfl (lv_at hl 1 rfl) ?_
              refine lv_aload_n hx hb d_Plan_totalPrice_25 rfl (lv_at hl 0 rfl) ?_
              refine lv_iload_n hx hb d_Plan_totalPrice_26 rfl (lv_at hl 2 rfl) ?_
              refine lv_iload hx hb d_Plan_totalPrice_27 (lv_at hl 3 rfl) ?_
              obtain ⟨y29, hy29, hR⟩ := hw_bind hR
              have hM := c_Plan_price l dC dI cI cJ cZ H.size aP VP0 VP1 VP2 NP0 LP0 LP1 LP2 LP3 LP4 IP0 IP1 aS VS0 VS1 VS2 NS0 NS1 NS2 LS0 LS1 LS2 LS3 LS4 LS5 LS6 LS7 LS8 IS0 aY VY0 LY0 LY1 LY2 IY0 x3_4 x4_15 (by first | assumption | omega) (by first | assumption | omega)
              rw [hy29] at hM
              refine hw_callVl (As := [.int (nI x3_4), .int (nI x4_15)]) (rest := [.long x1_15]) (wr := ([] : va_W)) ⟨hx, hb, hml, hown, hG⟩ hM (hw_cwV 2 hG m_312 m_301 m_302 m_5 m_303 rfl rfl (by decide +kernel) ⟨Nat.le_of_ble_eq_true rfl, Nat.le_of_ble_eq_true rfl⟩) hK hP hD hS hA [0, 1, 2, 3, 4, 5, 6, 7, 8, 9, 10, 11, 12, 13, 14, 15, 16, 17, 18, 19, 20, 21, 22, 23, 24, 25, 26, 27] [] rfl rfl (by decide) (by decide) (by decide) (hw_recv hK hP 0 rfl rfl) rfl hl.1 rfl (Nat.le_of_ble_eq_true rfl) d_Plan_totalPrice_29 ⟨Nat.le_of_ble_eq_true rfl, Nat.le_of_ble_eq_true rfl⟩ (fun H locs hP hD hS => ?_)
              have hP : va_P (dC, dI) vwCl (w_P cI cJ cZ aP VP0 VP1 VP2 NP0 LP0 LP1 LP2 LP3 LP4 IP0 IP1 aS ++ w_S cI cJ cZ aS VS0 VS1 VS2 NS0 NS1 NS2 LS0 LS1 LS2 LS3 LS4 LS5 LS6 LS7 LS8 IS0 aY ++ w_Y cI cJ cZ aY VY0 LY0 LY1 LY2 IY0) H := hP
              have hD : va_D A (w_P cI cJ cZ aP VP0 VP1 VP2 NP0 LP0 LP1 LP2 LP3 LP4 IP0 IP1 aS ++ w_S cI cJ cZ aS VS0 VS1 VS2 NS0 NS1 NS2 LS0 LS1 LS2 LS3 LS4 LS5 LS6 LS7 LS8 IS0 aY ++ w_Y cI cJ cZ aY VY0 LY0 LY1 LY2 IY0) := hD
              refine lv_ladd hx hb d_Plan_totalPrice_32 ?_
              refine lv_lstore_n (lv' := [(1, .long (x1_15 + y29)), (0, .ref (aP 0)), (3, .int (nI x3_4)), (4, .int (nI x4_15))]) hx hb d_Plan_totalPrice_33 rfl hl (by decide) rfl (fun ls hl => ?_)
              refine lv_iinc (v := nI (x4_15 + 1)) (lv' := [(4, .int (nI (x4_15 + 1))), (1, .long (x1_15 + y29)), (0, .ref (aP 0)), (3, .int (nI x3_4))]) hx hb d_Plan_totalPrice_34 hl (k := 3) rfl (hw_inc _ 1) (by decide) rfl (fun ls hl => ?_)
              refine lv_goto (tgt := 15) hx hb d_Plan_totalPrice_37 (by decide) ?_
              rw [hrec_15] at hR
              exact ih_15 (x1_15 + y29) (x4_15 + 1) (by first | assumption | omega | exact hw_upb (by assumption) (by omega)) (by omega) H locs hP hD hS ls (lv_sub hl [2, 1, 3, 0] rfl) hR
        exact L_15 9 x1_4 0 (by first | assumption | omega | exact hw_upb (by assumption) (by omega)) (by omega) H locs hP hD hS ls (lv_sub hl [1, 2, 3, 0] rfl) hR
  exact L_4 13 0 0 (by first | assumption | omega | exact hw_upb (by assumption) (by omega)) (by omega) H locs hP hD hS ls (lv_sub hl [2, 1, 0] rfl) hR
def f_Plan_amountFrom_h14B (VP1 : Nat) (LP1 : Nat → Int64) (x5_5 : Nat) (k_14 : (Int64) → (Nat) → Int64) (rec_14 : (Int64) → (Nat) → Int64) (x3_14 : Int64) (x6_14 : Nat) : Int64 :=
  if VP1 ≤ x6_14 then (k_14 x3_14 x6_14) else (hh_bind (f_Plan_amount LP1 x5_5 x6_14) (fun y29 => rec_14 (x3_14 + y29) (x6_14 + 1)))
def f_Plan_amountFrom_h14 (VP1 : Nat) (LP1 : Nat → Int64) (x5_5 : Nat) (k_14 : (Int64) → (Nat) → Int64) : Nat → (Int64) → (Nat) → Int64
  | 0, x3_14, x6_14 => k_14 x3_14 x6_14
  | n + 1, x3_14, x6_14 => f_Plan_amountFrom_h14B VP1 LP1 x5_5 k_14 (fun x3_14 x6_14 => f_Plan_amountFrom_h14 VP1 LP1 x5_5 k_14 n x3_14 x6_14) x3_14 x6_14
def f_Plan_amountFrom_x14 (rec_5 : (Int64) → (Nat) → Int64) (x5_5 : Nat) (x3_14 : Int64) (x6_14 : Nat) : Int64 :=
  rec_5 x3_14 (x5_5 + 1)
def f_Plan_amountFrom_h5B (x2 : Nat) (VP1 : Nat) (LP1 : Nat → Int64) (k_5 : (Int64) → (Nat) → Int64) (rec_5 : (Int64) → (Nat) → Int64) (x3_5 : Int64) (x5_5 : Nat) : Int64 :=
  if x2 ≤ x5_5 then (k_5 x3_5 x5_5) else (f_Plan_amountFrom_h14 VP1 LP1 x5_5 (f_Plan_amountFrom_x14 rec_5 x5_5) 9 x3_5 0)
def f_Plan_amountFrom_h5 (x2 : Nat) (VP1 : Nat) (LP1 : Nat → Int64) (k_5 : (Int64) → (Nat) → Int64) : Nat → (Int64) → (Nat) → Int64
  | 0, x3_5, x5_5 => k_5 x3_5 x5_5
  | n + 1, x3_5, x5_5 => f_Plan_amountFrom_h5B x2 VP1 LP1 k_5 (fun x3_5 x5_5 => f_Plan_amountFrom_h5 x2 VP1 LP1 k_5 n x3_5 x5_5) x3_5 x5_5
def f_Plan_amountFrom_x5  (x3_5 : Int64) (x5_5 : Nat) : Int64 :=
  (x3_5)
def f_Plan_amountFrom (VP1 : Nat) (LP1 : Nat → Int64) (x1 : Nat) (x2 : Nat) : Int64 :=
  f_Plan_amountFrom_h5 x2 VP1 LP1 f_Plan_amountFrom_x5 13 0 x1
set_option maxHeartbeats 4000000 in
set_option maxRecDepth 100000 in
theorem c_Plan_amountFrom (l : Launch) (dC : Nat → ClassId) (dI : Nat → Nat → Nat) (cI cJ cZ : ClassId) (sz : Nat) (aP : Nat → Nat) (VP0 : Nat) (VP1 : Nat) (VP2 : Nat) (NP0 : Nat → Nat) (LP0 : Nat → Int64) (LP1 : Nat → Int64) (LP2 : Nat → Int64) (LP3 : Nat → Int64) (LP4 : Nat → Int64) (IP0 : Nat → Int32) (IP1 : Nat → Int32) (aS : Nat → Nat) (VS0 : Nat) (VS1 : Nat) (VS2 : Nat) (NS0 : Nat → Nat) (NS1 : Nat → Nat) (NS2 : Nat → Nat) (LS0 : Nat → Int64) (LS1 : Nat → Int64) (LS2 : Nat → Int64) (LS3 : Nat → Int64) (LS4 : Nat → Int64) (LS5 : Nat → Int64) (LS6 : Nat → Int64) (LS7 : Nat → Int64) (LS8 : Nat → Int64) (IS0 : Nat → Int32) (aY : Nat → Nat) (VY0 : Nat) (LY0 : Nat → Int64) (LY1 : Nat → Int64) (LY2 : Nat → Int64) (IY0 : Nat → Int32) (x1 : Nat) (x2 : Nat) (hx1 : x1 ≤ 12) (hx2 : x2 ≤ 12) (hb8 : VP1 ≤ 8) : hh_Cl l y_Plan_amountFrom u_Plan_amountFrom ({ frames := 1, cells := 0, slots := 0, locals := 22 }) (dC, dI) vwCl [(cI, .int), (cJ, .long), (cZ, .boolean)] (w_P cI cJ cZ aP VP0 VP1 VP2 NP0 LP0 LP1 LP2 LP3 LP4 IP0 IP1 aS ++ w_S cI cJ cZ aS VS0 VS1 VS2 NS0 NS1 NS2 LS0 LS1 LS2 LS3 LS4 LS5 LS6 LS7 LS8 IS0 aY ++ w_Y cI cJ cZ aY VY0 LY0 LY1 LY2 IY0) sz [.ref (aP 0), .int (nI x1), .int (nI x2)] (f_Plan_amountFrom VP1 LP1 x1 x2) (w_P cI cJ cZ aP VP0 VP1 VP2 NP0 LP0 LP1 LP2 LP3 LP4 IP0 IP1 aS ++ w_S cI cJ cZ aS VS0 VS1 VS2 NS0 NS1 NS2 LS0 LS1 LS2 LS3 LS4 LS5 LS6 LS7 LS8 IS0 aY ++ w_Y cI cJ cZ aY VY0 LY0 LY1 LY2 IY0) 0 0 := by
  unfold hh_Cl
  refine Met.ofW (cc := b_Plan_amountFrom) (maxL := 7) (ret := (some .long)) (by decide) rfl ?_
  intro p e s m args below meth c s₁ B hml hv
  obtain ⟨rfl, hsz, hP, hK, hD0⟩ := hv
  have hx := B.exec
  have hb := B.bytes
  have hr := B.returns
  have hts := atoms_spec (ws := u_Plan_amountFrom) B.pre
  have hG : ∀ w ∈ wG, w.before ([.ref (aP 0), .int (nI x1), .int (nI x2)]).toArray s = true := fun w h => hts w (List.mem_cons_of_mem _ h)
  have hown : s.vm.findClass R_Plan = some m.cls := findClass_of_methodNamed B.named
  have hlocks := B.notSynchronized
  subst hsz
  have hD := hD0.self (sz := s.heap.size)
  generalize hAe : va_A (w_P cI cJ cZ aP VP0 VP1 VP2 NP0 LP0 LP1 LP2 LP3 LP4 IP0 IP1 aS ++ w_S cI cJ cZ aS VS0 VS1 VS2 NS0 NS1 NS2 LS0 LS1 LS2 LS3 LS4 LS5 LS6 LS7 LS8 IS0 aY ++ w_Y cI cJ cZ aY VY0 LY0 LY1 LY2 IY0) s.heap.size = A at hD ⊢
  have hA : ∀ q : Nat, s.heap.size ≤ q → A q := fun q h => by rw [← hAe]; exact Or.inr h
  have hS : va_S A s.heap s.heap [] := va_S.rf
  have hl := lv_entry ([.ref (aP 0), .int (nI x1), .int (nI x2)]) (n := 7) (Nat.le_of_ble_eq_true rfl)
  rw [lg_entry_eq]
  generalize (lg_sl ([.ref (aP 0), .int (nI x1), .int (nI x2)]) ++ List.replicate (7 - (lg_sl ([.ref (aP 0), .int (nI x1), .int (nI x2)])).length) Slot.unset).toArray = ls at hl ⊢
  have hl : lv_has ls 7 [(0, .ref (aP 0)), (1, .int (nI x1)), (2, .int (nI x2))] := hl
  generalize hR : f_Plan_amountFrom VP1 LP1 x1 x2 = r0
  obtain ⟨H, locs, hHe, hle⟩ : ∃ (H : Heap) (locs : List Loc), s.heap = H ∧ [] = locs := ⟨_, _, rfl, rfl⟩
  have hP : va_P (dC, dI) vwCl (w_P cI cJ cZ aP VP0 VP1 VP2 NP0 LP0 LP1 LP2 LP3 LP4 IP0 IP1 aS ++ w_S cI cJ cZ aS VS0 VS1 VS2 NS0 NS1 NS2 LS0 LS1 LS2 LS3 LS4 LS5 LS6 LS7 LS8 IS0 aY ++ w_Y cI cJ cZ aY VY0 LY0 LY1 LY2 IY0) H := by rw [← hHe]; exact hP
  have hS : va_S A s.heap H locs := by rw [← hHe, ← hle]; exact hS
  refine hw_start hHe hle ?_
  unfold f_Plan_amountFrom at hR
  refine lv_lconst (v := 0) hx hb d_Plan_amountFrom_0 (by decide) ?_
  refine lv_lstore_n (lv' := [(3, .long 0), (0, .ref (aP 0)), (1, .int (nI x1)), (2, .int (nI x2))]) hx hb d_Plan_amountFrom_1 rfl hl (by decide) rfl (fun ls hl => ?_)
  refine lv_iload_n hx hb d_Plan_amountFrom_2 rfl (lv_at hl 2 rfl) ?_
  refine lv_istore (lv' := [(5, .int (nI x1)), (3, .long 0), (0, .ref (aP 0)), (1, .int (nI x1)), (2, .int (nI x2))]) hx hb d_Plan_amountFrom_3 hl (by decide) rfl (fun ls hl => ?_)
  obtain ⟨k_5, hk_5, hR⟩ : ∃ k, f_Plan_amountFrom_x5 = k ∧ f_Plan_amountFrom_h5 x2 VP1 LP1 k 13 0 x1 = r0 := ⟨_, rfl, hR⟩
  have X_5 : ∀ (x3_5 : Int64) (x5_5 : Nat) (hi : x5_5 ≤ 12) (H : Heap) (locs : List Loc) (hP : va_P (dC, dI) vwCl (w_P cI cJ cZ aP VP0 VP1 VP2 NP0 LP0 LP1 LP2 LP3 LP4 IP0 IP1 aS ++ w_S cI cJ cZ aS VS0 VS1 VS2 NS0 NS1 NS2 LS0 LS1 LS2 LS3 LS4 LS5 LS6 LS7 LS8 IS0 aY ++ w_Y cI cJ cZ aY VY0 LY0 LY1 LY2 IY0) H) (hD : va_D A (w_P cI cJ cZ aP VP0 VP1 VP2 NP0 LP0 LP1 LP2 LP3 LP4 IP0 IP1 aS ++ w_S cI cJ cZ aS VS0 VS1 VS2 NS0 NS1 NS2 LS0 LS1 LS2 LS3 LS4 LS5 LS6 LS7 LS8 IS0 aY ++ w_Y cI cJ cZ aY VY0 LY0 LY1 LY2 IY0)) (hS : va_S A s.heap H locs) (ls : Array Slot) (hl : lv_has ls 7 [(0, .ref (aP 0)), (1, .int (nI x1)), (2, .int (nI x2)), (3, .long x3_5), (5, .int (nI x5_5))]) (hR : k_5 x3_5 x5_5 = r0), W p l e (headSpec u_Plan_amountFrom ({ frames := 1, cells := 0, slots := 0, locals := 22 })).room s m ([.ref (aP 0), .int (nI x1), .int (nI x2)]).toArray below meth c H locs 0 0 (hh_Zl below (dC, dI) vwCl [(cI, .int), (cJ, .long), (cZ, .boolean)] A r0 (w_P cI cJ cZ aP VP0 VP1 VP2 NP0 LP0 LP1 LP2 LP3 LP4 IP0 IP1 aS ++ w_S cI cJ cZ aS VS0 VS1 VS2 NS0 NS1 NS2 LS0 LS1 LS2 LS3 LS4 LS5 LS6 LS7 LS8 IS0 aY ++ w_Y cI cJ cZ aY VY0 LY0 LY1 LY2 IY0) ([.ref (aP 0), .int (nI x1), .int (nI x2)]).toArray s) (F0 m 46 ls []) := by
    intro x3_5 x5_5 hi H locs hP hD hS ls hl hR
    rw [← hk_5] at hR
    unfold f_Plan_amountFrom_x5 at hR
    refine lv_lload_n hx hb d_Plan_amountFrom_46 rfl (lv_at hl 3 rfl) ?_
    subst hR
    exact W.lret (v := x3_5) hx hb hr (fun t ht hW => ⟨⟨_, (), rfl, rfl, by rw [ht]; exact hP, va_K.moved hW.alike hK, hD⟩, hS.F ht⟩) hS.2.2 d_Plan_amountFrom_47
  have L_5 : ∀ (n : Nat) (x3_5 : Int64) (x5_5 : Nat) (hi : x5_5 ≤ 12) (hfu : 12 - x5_5 < n) (H : Heap) (locs : List Loc) (hP : va_P (dC, dI) vwCl (w_P cI cJ cZ aP VP0 VP1 VP2 NP0 LP0 LP1 LP2 LP3 LP4 IP0 IP1 aS ++ w_S cI cJ cZ aS VS0 VS1 VS2 NS0 NS1 NS2 LS0 LS1 LS2 LS3 LS4 LS5 LS6 LS7 LS8 IS0 aY ++ w_Y cI cJ cZ aY VY0 LY0 LY1 LY2 IY0) H) (hD : va_D A (w_P cI cJ cZ aP VP0 VP1 VP2 NP0 LP0 LP1 LP2 LP3 LP4 IP0 IP1 aS ++ w_S cI cJ cZ aS VS0 VS1 VS2 NS0 NS1 NS2 LS0 LS1 LS2 LS3 LS4 LS5 LS6 LS7 LS8 IS0 aY ++ w_Y cI cJ cZ aY VY0 LY0 LY1 LY2 IY0)) (hS : va_S A s.heap H locs) (ls : Array Slot) (hl : lv_has ls 7 [(0, .ref (aP 0)), (1, .int (nI x1)), (2, .int (nI x2)), (3, .long x3_5), (5, .int (nI x5_5))]) (hR : f_Plan_amountFrom_h5 x2 VP1 LP1 k_5 n x3_5 x5_5 = r0), W p l e (headSpec u_Plan_amountFrom ({ frames := 1, cells := 0, slots := 0, locals := 22 })).room s m ([.ref (aP 0), .int (nI x1), .int (nI x2)]).toArray below meth c H locs 0 0 (hh_Zl below (dC, dI) vwCl [(cI, .int), (cJ, .long), (cZ, .boolean)] A r0 (w_P cI cJ cZ aP VP0 VP1 VP2 NP0 LP0 LP1 LP2 LP3 LP4 IP0 IP1 aS ++ w_S cI cJ cZ aS VS0 VS1 VS2 NS0 NS1 NS2 LS0 LS1 LS2 LS3 LS4 LS5 LS6 LS7 LS8 IS0 aY ++ w_Y cI cJ cZ aY VY0 LY0 LY1 LY2 IY0) ([.ref (aP 0), .int (nI x1), .int (nI x2)]).toArray s) (F0 m 5 ls []) := by
    intro n
    induction n with
    | zero =>
      intro x3_5 x5_5 hi hfu H locs hP hD hS ls hl hR
      exact absurd hfu (Nat.not_lt_zero _)
    | succ n ih_5 =>
      intro x3_5 x5_5 hi hfu H locs hP hD hS ls hl hR
      rw [f_Plan_amountFrom_h5] at hR
      obtain ⟨rec_5, hrec_5, hR⟩ : ∃ r, r = _ ∧ f_Plan_amountFrom_h5B x2 VP1 LP1 k_5 r x3_5 x5_5 = r0 := ⟨_, rfl, hR⟩
      unfold f_Plan_amountFrom_h5B at hR
      refine lv_iload hx hb d_Plan_amountFrom_5 (lv_at hl 4 rfl) ?_
      refine lv_iload_n hx hb d_Plan_amountFrom_7 rfl (lv_at hl 2 rfl) ?_
      refine hw_icmp_ge (tgt := 46) hx hb d_Plan_amountFrom_8 (by decide) (by omega) (by omega) (fun c8 => ?_) (fun c8 => ?_)
      · replace hR := (if_pos c8).symm.trans hR
        exact X_5 x3_5 x5_5 (by first | assumption | omega | exact hw_upb (by assumption) (by omega)) H locs hP hD hS ls (lv_sub hl [0, 1, 2, 3, 4] rfl) hR
      · replace hR := (if_neg c8).symm.trans hR
        refine lv_iconst (v := nI 0) hx hb d_Plan_amountFrom_11 (by decide) ?_
        refine lv_istore (lv' := [(6, .int (nI 0)), (0, .ref (aP 0)), (1, .int (nI x1)), (2, .int (nI x2)), (3, .long x3_5), (5, .int (nI x5_5))]) hx hb d_Plan_amountFrom_12 hl (by decide) rfl (fun ls hl => ?_)
        obtain ⟨k_14, hk_14, hR⟩ : ∃ k, (f_Plan_amountFrom_x14 rec_5 x5_5) = k ∧ f_Plan_amountFrom_h14 VP1 LP1 x5_5 k 9 x3_5 0 = r0 := ⟨_, rfl, hR⟩
        have X_14 : ∀ (x3_14 : Int64) (x6_14 : Nat) (hi : x6_14 ≤ (VP1)) (H : Heap) (locs : List Loc) (hP : va_P (dC, dI) vwCl (w_P cI cJ cZ aP VP0 VP1 VP2 NP0 LP0 LP1 LP2 LP3 LP4 IP0 IP1 aS ++ w_S cI cJ cZ aS VS0 VS1 VS2 NS0 NS1 NS2 LS0 LS1 LS2 LS3 LS4 LS5 LS6 LS7 LS8 IS0 aY ++ w_Y cI cJ cZ aY VY0 LY0 LY1 LY2 IY0) H) (hD : va_D A (w_P cI cJ cZ aP VP0 VP1 VP2 NP0 LP0 LP1 LP2 LP3 LP4 IP0 IP1 aS ++ w_S cI cJ cZ aS VS0 VS1 VS2 NS0 NS1 NS2 LS0 LS1 LS2 LS3 LS4 LS5 LS6 LS7 LS8 IS0 aY ++ w_Y cI cJ cZ aY VY0 LY0 LY1 LY2 IY0)) (hS : va_S A s.heap H locs) (ls : Array Slot) (hl : lv_has ls 7 [(0, .ref (aP 0)), (1, .int (nI x1)), (2, .int (nI x2)), (3, .long x3_14), (5, .int (nI x5_5)), (6, .int (nI x6_14))]) (hR : k_14 x3_14 x6_14 = r0), W p l e (headSpec u_Plan_amountFrom ({ frames := 1, cells := 0, slots := 0, locals := 22 })).room s m ([.ref (aP 0), .int (nI x1), .int (nI x2)]).toArray below meth c H locs 0 0 (hh_Zl below (dC, dI) vwCl [(cI, .int), (cJ, .long), (cZ, .boolean)] A r0 (w_P cI cJ cZ aP VP0 VP1 VP2 NP0 LP0 LP1 LP2 LP3 LP4 IP0 IP1 aS ++ w_S cI cJ cZ aS VS0 VS1 VS2 NS0 NS1 NS2 LS0 LS1 LS2 LS3 LS4 LS5 LS6 LS7 LS8 IS0 aY ++ w_Y cI cJ cZ aY VY0 LY0 LY1 LY2 IY0) ([.ref (aP 0), .int (nI x1), .int (nI x2)]).toArray s) (F0 m 40 ls []) := by
          intro x3_14 x6_14 hi H locs hP hD hS ls hl hR
          rw [← hk_14] at hR
          unfold f_Plan_amountFrom_x14 at hR
          refine lv_iinc (v := nI (x5_5 + 1)) (lv' := [(5, .int (nI (x5_5 + 1))), (0, .ref (aP 0)), (1, .int (nI x1)), (2, .int (nI x2)), (3, .long x3_14), (6, .int (nI x6_14))]) hx hb d_Plan_amountFrom_40 hl (k := 4) rfl (hw_inc _ 1) (by decide) rfl (fun ls hl => ?_)
          refine lv_goto (tgt := 5) hx hb d_Plan_amountFrom_43 (by decide) ?_
          rw [hrec_5] at hR
          exact ih_5 x3_14 (x5_5 + 1) (by first | assumption | omega | exact hw_upb (by assumption) (by omega)) (by omega) H locs hP hD hS ls (lv_sub hl [1, 2, 3, 4, 0] rfl) hR
        have L_14 : ∀ (n : Nat) (x3_14 : Int64) (x6_14 : Nat) (hi : x6_14 ≤ (VP1)) (hfu : (VP1) - x6_14 < n) (H : Heap) (locs : List Loc) (hP : va_P (dC, dI) vwCl (w_P cI cJ cZ aP VP0 VP1 VP2 NP0 LP0 LP1 LP2 LP3 LP4 IP0 IP1 aS ++ w_S cI cJ cZ aS VS0 VS1 VS2 NS0 NS1 NS2 LS0 LS1 LS2 LS3 LS4 LS5 LS6 LS7 LS8 IS0 aY ++ w_Y cI cJ cZ aY VY0 LY0 LY1 LY2 IY0) H) (hD : va_D A (w_P cI cJ cZ aP VP0 VP1 VP2 NP0 LP0 LP1 LP2 LP3 LP4 IP0 IP1 aS ++ w_S cI cJ cZ aS VS0 VS1 VS2 NS0 NS1 NS2 LS0 LS1 LS2 LS3 LS4 LS5 LS6 LS7 LS8 IS0 aY ++ w_Y cI cJ cZ aY VY0 LY0 LY1 LY2 IY0)) (hS : va_S A s.heap H locs) (ls : Array Slot) (hl : lv_has ls 7 [(0, .ref (aP 0)), (1, .int (nI x1)), (2, .int (nI x2)), (3, .long x3_14), (5, .int (nI x5_5)), (6, .int (nI x6_14))]) (hR : f_Plan_amountFrom_h14 VP1 LP1 x5_5 k_14 n x3_14 x6_14 = r0), W p l e (headSpec u_Plan_amountFrom ({ frames := 1, cells := 0, slots := 0, locals := 22 })).room s m ([.ref (aP 0), .int (nI x1), .int (nI x2)]).toArray below meth c H locs 0 0 (hh_Zl below (dC, dI) vwCl [(cI, .int), (cJ, .long), (cZ, .boolean)] A r0 (w_P cI cJ cZ aP VP0 VP1 VP2 NP0 LP0 LP1 LP2 LP3 LP4 IP0 IP1 aS ++ w_S cI cJ cZ aS VS0 VS1 VS2 NS0 NS1 NS2 LS0 LS1 LS2 LS3 LS4 LS5 LS6 LS7 LS8 IS0 aY ++ w_Y cI cJ cZ aY VY0 LY0 LY1 LY2 IY0) ([.ref (aP 0), .int (nI x1), .int (nI x2)]).toArray s) (F0 m 14 ls []) := by
          intro n
          induction n with
          | zero =>
            intro x3_14 x6_14 hi hfu H locs hP hD hS ls hl hR
            exact absurd hfu (Nat.not_lt_zero _)
          | succ n ih_14 =>
            intro x3_14 x6_14 hi hfu H locs hP hD hS ls hl hR
            rw [f_Plan_amountFrom_h14] at hR
            obtain ⟨rec_14, hrec_14, hR⟩ : ∃ r, r = _ ∧ f_Plan_amountFrom_h14B VP1 LP1 x5_5 k_14 r x3_14 x6_14 = r0 := ⟨_, rfl, hR⟩
            unfold f_Plan_amountFrom_h14B at hR
            refine lv_iload hx hb d_Plan_amountFrom_14 (lv_at hl 5 rfl) ?_
            refine lv_aload_n hx hb d_Plan_amountFrom_16 rfl (lv_at hl 0 rfl) ?_
            refine va_get (D := (dC, dI)) (ci := 0) (v := .int (nI VP1)) (C := R_Plan) (T := T_Plan) (N := 12) hx hb hG in_Plan hown hK hP 0 rfl rfl 2 (by decide) (hG _ m_133) (fun _ h9 => h9) rfl d_Plan_amountFrom_17 ?_
            refine hw_icmp_ge (tgt := 40) hx hb d_Plan_amountFrom_20 (by decide) (by omega) (by omega) (fun c20 => ?_) (fun c20 => ?_)
            · replace hR := (if_pos c20).symm.trans hR
              exact X_14 x3_14 x6_14 (by first | assumption | omega | exact hw_upb (by assumption) (by omega)) H locs hP hD hS ls (lv_sub hl [0, 1, 2, 3, 4, 5] rfl) hR
            · replace hR := (if_neg c20).symm.trans hR
              refine lv_lload_n hx hb d_Plan_amountFrom_23 rfl (lv_at hl 3 rfl) ?_
              refine lv_aload_n hx hb d_Plan_amountFrom_24 rfl (lv_at hl 0 rfl) ?_
              refine lv_iload hx hb d_Plan_amountFrom_25 (lv_at hl 4 rfl) ?_
              refine lv_iload hx hb d_Plan_amountFrom_27 (lv_at hl 5 rfl) ?_
              obtain ⟨y29, hy29, hR⟩ := hw_bind hR
              have hM := c_Plan_amount l dC dI cI cJ cZ H.size aP VP0 VP1 VP2 NP0 LP0 LP1 LP2 LP3 LP4 IP0 IP1 aS VS0 VS1 VS2 NS0 NS1 NS2 LS0 LS1 LS2 LS3 LS4 LS5 LS6 LS7 LS8 IS0 aY VY0 LY0 LY1 LY2 IY0 x5_5 x6_14 (by first | assumption | omega) (by first | assumption | omega)
              rw [hy29] at hM
              refine hw_callVl (As := [.int (nI x5_5), .int (nI x6_14)]) (rest := [.long x3_14]) (wr := ([] : va_W)) ⟨hx, hb, hml, hown, hG⟩ hM (hw_cwV 2 hG m_317 m_297 m_298 m_5 m_299 rfl rfl (by decide +kernel) ⟨Nat.le_of_ble_eq_true rfl, Nat.le_of_ble_eq_true rfl⟩) hK hP hD hS hA [0, 1, 2, 3, 4, 5, 6, 7, 8, 9, 10, 11, 12, 13, 14, 15, 16, 17, 18, 19, 20, 21, 22, 23, 24, 25, 26, 27] [] rfl rfl (by decide) (by decide) (by decide) (hw_recv hK hP 0 rfl rfl) rfl hl.1 rfl (Nat.le_of_ble_eq_true rfl) d_Plan_amountFrom_29 ⟨Nat.le_of_ble_eq_true rfl, Nat.le_of_ble_eq_true rfl⟩ (fun H locs hP hD hS => ?_)
              have hP : va_P (dC, dI) vwCl (w_P cI cJ cZ aP VP0 VP1 VP2 NP0 LP0 LP1 LP2 LP3 LP4 IP0 IP1 aS ++ w_S cI cJ cZ aS VS0 VS1 VS2 NS0 NS1 NS2 LS0 LS1 LS2 LS3 LS4 LS5 LS6 LS7 LS8 IS0 aY ++ w_Y cI cJ cZ aY VY0 LY0 LY1 LY2 IY0) H := hP
              have hD : va_D A (w_P cI cJ cZ aP VP0 VP1 VP2 NP0 LP0 LP1 LP2 LP3 LP4 IP0 IP1 aS ++ w_S cI cJ cZ aS VS0 VS1 VS2 NS0 NS1 NS2 LS0 LS1 LS2 LS3 LS4 LS5 LS6 LS7 LS8 IS0 aY ++ w_Y cI cJ cZ aY VY0 LY0 LY1 LY2 IY0) := hD
              refine lv_ladd hx hb d_Plan_amountFrom_32 ?_
              refine lv_lstore_n (lv' := [(3, .long (x3_14 + y29)), (0, .ref (aP 0)), (1, .int (nI x1)), (2, .int (nI x2)), (5, .int (nI x5_5)), (6, .int (nI x6_14))]) hx hb d_Plan_amountFrom_33 rfl hl (by decide) rfl (fun ls hl => ?_)
              refine lv_iinc (v := nI (x6_14 + 1)) (lv' := [(6, .int (nI (x6_14 + 1))), (3, .long (x3_14 + y29)), (0, .ref (aP 0)), (1, .int (nI x1)), (2, .int (nI x2)), (5, .int (nI x5_5))]) hx hb d_Plan_amountFrom_34 hl (k := 5) rfl (hw_inc _ 1) (by decide) rfl (fun ls hl => ?_)
              refine lv_goto (tgt := 14) hx hb d_Plan_amountFrom_37 (by decide) ?_
              rw [hrec_14] at hR
              exact ih_14 (x3_14 + y29) (x6_14 + 1) (by first | assumption | omega | exact hw_upb (by assumption) (by omega)) (by omega) H locs hP hD hS ls (lv_sub hl [2, 3, 4, 1, 5, 0] rfl) hR
        exact L_14 9 x3_5 0 (by first | assumption | omega | exact hw_upb (by assumption) (by omega)) (by omega) H locs hP hD hS ls (lv_sub hl [1, 2, 3, 4, 5, 0] rfl) hR
  exact L_5 13 0 x1 (by first | assumption | omega | exact hw_upb (by assumption) (by omega)) (by omega) H locs hP hD hS ls (lv_sub hl [2, 3, 4, 1, 0] rfl) hR
def f_Plan_amountTo_h5B (VP0 : Nat) (LP1 : Nat → Int64) (x1 : Nat) (k_5 : (Int64) → (Nat) → Int64) (rec_5 : (Int64) → (Nat) → Int64) (x2_5 : Int64) (x4_5 : Nat) : Int64 :=
  if VP0 ≤ x4_5 then (k_5 x2_5 x4_5) else (hh_bind (f_Plan_amount LP1 x4_5 x1) (fun y19 => rec_5 (x2_5 + y19) (x4_5 + 1)))
def f_Plan_amountTo_h5 (VP0 : Nat) (LP1 : Nat → Int64) (x1 : Nat) (k_5 : (Int64) → (Nat) → Int64) : Nat → (Int64) → (Nat) → Int64
  | 0, x2_5, x4_5 => k_5 x2_5 x4_5
  | n + 1, x2_5, x4_5 => f_Plan_amountTo_h5B VP0 LP1 x1 k_5 (fun x2_5 x4_5 => f_Plan_amountTo_h5 VP0 LP1 x1 k_5 n x2_5 x4_5) x2_5 x4_5
def f_Plan_amountTo_x5  (x2_5 : Int64) (x4_5 : Nat) : Int64 :=
  (x2_5)
def f_Plan_amountTo (VP0 : Nat) (LP1 : Nat → Int64) (x1 : Nat) : Int64 :=
  f_Plan_amountTo_h5 VP0 LP1 x1 f_Plan_amountTo_x5 13 0 0
set_option maxHeartbeats 4000000 in
set_option maxRecDepth 100000 in
theorem c_Plan_amountTo (l : Launch) (dC : Nat → ClassId) (dI : Nat → Nat → Nat) (cI cJ cZ : ClassId) (sz : Nat) (aP : Nat → Nat) (VP0 : Nat) (VP1 : Nat) (VP2 : Nat) (NP0 : Nat → Nat) (LP0 : Nat → Int64) (LP1 : Nat → Int64) (LP2 : Nat → Int64) (LP3 : Nat → Int64) (LP4 : Nat → Int64) (IP0 : Nat → Int32) (IP1 : Nat → Int32) (aS : Nat → Nat) (VS0 : Nat) (VS1 : Nat) (VS2 : Nat) (NS0 : Nat → Nat) (NS1 : Nat → Nat) (NS2 : Nat → Nat) (LS0 : Nat → Int64) (LS1 : Nat → Int64) (LS2 : Nat → Int64) (LS3 : Nat → Int64) (LS4 : Nat → Int64) (LS5 : Nat → Int64) (LS6 : Nat → Int64) (LS7 : Nat → Int64) (LS8 : Nat → Int64) (IS0 : Nat → Int32) (aY : Nat → Nat) (VY0 : Nat) (LY0 : Nat → Int64) (LY1 : Nat → Int64) (LY2 : Nat → Int64) (IY0 : Nat → Int32) (x1 : Nat) (hs12 : VP0 ≤ 12) (hx1 : x1 < 9) : hh_Cl l y_Plan_amountTo u_Plan_amountTo ({ frames := 1, cells := 0, slots := 0, locals := 22 }) (dC, dI) vwCl [(cI, .int), (cJ, .long), (cZ, .boolean)] (w_P cI cJ cZ aP VP0 VP1 VP2 NP0 LP0 LP1 LP2 LP3 LP4 IP0 IP1 aS ++ w_S cI cJ cZ aS VS0 VS1 VS2 NS0 NS1 NS2 LS0 LS1 LS2 LS3 LS4 LS5 LS6 LS7 LS8 IS0 aY ++ w_Y cI cJ cZ aY VY0 LY0 LY1 LY2 IY0) sz [.ref (aP 0), .int (nI x1)] (f_Plan_amountTo VP0 LP1 x1) (w_P cI cJ cZ aP VP0 VP1 VP2 NP0 LP0 LP1 LP2 LP3 LP4 IP0 IP1 aS ++ w_S cI cJ cZ aS VS0 VS1 VS2 NS0 NS1 NS2 LS0 LS1 LS2 LS3 LS4 LS5 LS6 LS7 LS8 IS0 aY ++ w_Y cI cJ cZ aY VY0 LY0 LY1 LY2 IY0) 0 0 := by
  unfold hh_Cl
  refine Met.ofW (cc := b_Plan_amountTo) (maxL := 5) (ret := (some .long)) (by decide) rfl ?_
  intro p e s m args below meth c s₁ B hml hv
  obtain ⟨rfl, hsz, hP, hK, hD0⟩ := hv
  have hx := B.exec
  have hb := B.bytes
  have hr := B.returns
  have hts := atoms_spec (ws := u_Plan_amountTo) B.pre
  have hG : ∀ w ∈ wG, w.before ([.ref (aP 0), .int (nI x1)]).toArray s = true := fun w h => hts w (List.mem_cons_of_mem _ h)
  have hown : s.vm.findClass R_Plan = some m.cls := findClass_of_methodNamed B.named
  have hlocks := B.notSynchronized
  subst hsz
  have hD := hD0.self (sz := s.heap.size)
  generalize hAe : va_A (w_P cI cJ cZ aP VP0 VP1 VP2 NP0 LP0 LP1 LP2 LP3 LP4 IP0 IP1 aS ++ w_S cI cJ cZ aS VS0 VS1 VS2 NS0 NS1 NS2 LS0 LS1 LS2 LS3 LS4 LS5 LS6 LS7 LS8 IS0 aY ++ w_Y cI cJ cZ aY VY0 LY0 LY1 LY2 IY0) s.heap.size = A at hD ⊢
  have hA : ∀ q : Nat, s.heap.size ≤ q → A q := fun q h => by rw [← hAe]; exact Or.inr h
  have hS : va_S A s.heap s.heap [] := va_S.rf
  have hl := lv_entry ([.ref (aP 0), .int (nI x1)]) (n := 5) (Nat.le_of_ble_eq_true rfl)
  rw [lg_entry_eq]
  generalize (lg_sl ([.ref (aP 0), .int (nI x1)]) ++ List.replicate (5 - (lg_sl ([.ref (aP 0), .int (nI x1)])).length) Slot.unset).toArray = ls at hl ⊢
  have hl : lv_has ls 5 [(0, .ref (aP 0)), (1, .int (nI x1))] := hl
  generalize hR : f_Plan_amountTo VP0 LP1 x1 = r0
  obtain ⟨H, locs, hHe, hle⟩ : ∃ (H : Heap) (locs : List Loc), s.heap = H ∧ [] = locs := ⟨_, _, rfl, rfl⟩
  have hP : va_P (dC, dI) vwCl (w_P cI cJ cZ aP VP0 VP1 VP2 NP0 LP0 LP1 LP2 LP3 LP4 IP0 IP1 aS ++ w_S cI cJ cZ aS VS0 VS1 VS2 NS0 NS1 NS2 LS0 LS1 LS2 LS3 LS4 LS5 LS6 LS7 LS8 IS0 aY ++ w_Y cI cJ cZ aY VY0 LY0 LY1 LY2 IY0) H := by rw [← hHe]; exact hP
  have hS : va_S A s.heap H locs := by rw [← hHe, ← hle]; exact hS
  refine hw_start hHe hle ?_
  unfold f_Plan_amountTo at hR
  refine lv_lconst (v := 0) hx hb d_Plan_amountTo_0 (by decide) ?_
  refine lv_lstore_n (lv' := [(2, .long 0), (0, .ref (aP 0)), (1, .int (nI x1))]) hx hb d_Plan_amountTo_1 rfl hl (by decide) rfl (fun ls hl => ?_)
  refine lv_iconst (v := nI 0) hx hb d_Plan_amountTo_2 (by decide) ?_
  refine lv_istore (lv' := [(4, .int (nI 0)), (2, .long 0), (0, .ref (aP 0)), (1, .int (nI x1))]) hx hb d_Plan_amountTo_3 hl (by decide) rfl (fun ls hl => ?_)
  obtain ⟨k_5, hk_5, hR⟩ : ∃ k, f_Plan_amountTo_x5 = k ∧ f_Plan_amountTo_h5 VP0 LP1 x1 k 13 0 0 = r0 := ⟨_, rfl, hR⟩
  have X_5 : ∀ (x2_5 : Int64) (x4_5 : Nat) (hi : x4_5 ≤ (VP0)) (H : Heap) (locs : List Loc) (hP : va_P (dC, dI) vwCl (w_P cI cJ cZ aP VP0 VP1 VP2 NP0 LP0 LP1 LP2 LP3 LP4 IP0 IP1 aS ++ w_S cI cJ cZ aS VS0 VS1 VS2 NS0 NS1 NS2 LS0 LS1 LS2 LS3 LS4 LS5 LS6 LS7 LS8 IS0 aY ++ w_Y cI cJ cZ aY VY0 LY0 LY1 LY2 IY0) H) (hD : va_D A (w_P cI cJ cZ aP VP0 VP1 VP2 NP0 LP0 LP1 LP2 LP3 LP4 IP0 IP1 aS ++ w_S cI cJ cZ aS VS0 VS1 VS2 NS0 NS1 NS2 LS0 LS1 LS2 LS3 LS4 LS5 LS6 LS7 LS8 IS0 aY ++ w_Y cI cJ cZ aY VY0 LY0 LY1 LY2 IY0)) (hS : va_S A s.heap H locs) (ls : Array Slot) (hl : lv_has ls 5 [(0, .ref (aP 0)), (1, .int (nI x1)), (2, .long x2_5), (4, .int (nI x4_5))]) (hR : k_5 x2_5 x4_5 = r0), W p l e (headSpec u_Plan_amountTo ({ frames := 1, cells := 0, slots := 0, locals := 22 })).room s m ([.ref (aP 0), .int (nI x1)]).toArray below meth c H locs 0 0 (hh_Zl below (dC, dI) vwCl [(cI, .int), (cJ, .long), (cZ, .boolean)] A r0 (w_P cI cJ cZ aP VP0 VP1 VP2 NP0 LP0 LP1 LP2 LP3 LP4 IP0 IP1 aS ++ w_S cI cJ cZ aS VS0 VS1 VS2 NS0 NS1 NS2 LS0 LS1 LS2 LS3 LS4 LS5 LS6 LS7 LS8 IS0 aY ++ w_Y cI cJ cZ aY VY0 LY0 LY1 LY2 IY0) ([.ref (aP 0), .int (nI x1)]).toArray s) (F0 m 30 ls []) := by
    intro x2_5 x4_5 hi H locs hP hD hS ls hl hR
    rw [← hk_5] at hR
    unfold f_Plan_amountTo_x5 at hR
    refine lv_lload_n hx hb d_Plan_amountTo_30 rfl (lv_at hl 2 rfl) ?_
    subst hR
    exact W.lret (v := x2_5) hx hb hr (fun t ht hW => ⟨⟨_, (), rfl, rfl, by rw [ht]; exact hP, va_K.moved hW.alike hK, hD⟩, hS.F ht⟩) hS.2.2 d_Plan_amountTo_31
  have L_5 : ∀ (n : Nat) (x2_5 : Int64) (x4_5 : Nat) (hi : x4_5 ≤ (VP0)) (hfu : (VP0) - x4_5 < n) (H : Heap) (locs : List Loc) (hP : va_P (dC, dI) vwCl (w_P cI cJ cZ aP VP0 VP1 VP2 NP0 LP0 LP1 LP2 LP3 LP4 IP0 IP1 aS ++ w_S cI cJ cZ aS VS0 VS1 VS2 NS0 NS1 NS2 LS0 LS1 LS2 LS3 LS4 LS5 LS6 LS7 LS8 IS0 aY ++ w_Y cI cJ cZ aY VY0 LY0 LY1 LY2 IY0) H) (hD : va_D A (w_P cI cJ cZ aP VP0 VP1 VP2 NP0 LP0 LP1 LP2 LP3 LP4 IP0 IP1 aS ++ w_S cI cJ cZ aS VS0 VS1 VS2 NS0 NS1 NS2 LS0 LS1 LS2 LS3 LS4 LS5 LS6 LS7 LS8 IS0 aY ++ w_Y cI cJ cZ aY VY0 LY0 LY1 LY2 IY0)) (hS : va_S A s.heap H locs) (ls : Array Slot) (hl : lv_has ls 5 [(0, .ref (aP 0)), (1, .int (nI x1)), (2, .long x2_5), (4, .int (nI x4_5))]) (hR : f_Plan_amountTo_h5 VP0 LP1 x1 k_5 n x2_5 x4_5 = r0), W p l e (headSpec u_Plan_amountTo ({ frames := 1, cells := 0, slots := 0, locals := 22 })).room s m ([.ref (aP 0), .int (nI x1)]).toArray below meth c H locs 0 0 (hh_Zl below (dC, dI) vwCl [(cI, .int), (cJ, .long), (cZ, .boolean)] A r0 (w_P cI cJ cZ aP VP0 VP1 VP2 NP0 LP0 LP1 LP2 LP3 LP4 IP0 IP1 aS ++ w_S cI cJ cZ aS VS0 VS1 VS2 NS0 NS1 NS2 LS0 LS1 LS2 LS3 LS4 LS5 LS6 LS7 LS8 IS0 aY ++ w_Y cI cJ cZ aY VY0 LY0 LY1 LY2 IY0) ([.ref (aP 0), .int (nI x1)]).toArray s) (F0 m 5 ls []) := by
    intro n
    induction n with
    | zero =>
      intro x2_5 x4_5 hi hfu H locs hP hD hS ls hl hR
      exact absurd hfu (Nat.not_lt_zero _)
    | succ n ih_5 =>
      intro x2_5 x4_5 hi hfu H locs hP hD hS ls hl hR
      rw [f_Plan_amountTo_h5] at hR
      obtain ⟨rec_5, hrec_5, hR⟩ : ∃ r, r = _ ∧ f_Plan_amountTo_h5B VP0 LP1 x1 k_5 r x2_5 x4_5 = r0 := ⟨_, rfl, hR⟩
      unfold f_Plan_amountTo_h5B at hR
      refine lv_iload hx hb d_Plan_amountTo_5 (lv_at hl 3 rfl) ?_
      refine lv_aload_n hx hb d_Plan_amountTo_7 rfl (lv_at hl 0 rfl) ?_
      refine va_get (D := (dC, dI)) (ci := 0) (v := .int (nI VP0)) (C := R_Plan) (T := T_Plan) (N := 12) hx hb hG in_Plan hown hK hP 0 rfl rfl 1 (by decide) (hG _ m_132) (fun _ h9 => h9) rfl d_Plan_amountTo_8 ?_
      refine hw_icmp_ge (tgt := 30) hx hb d_Plan_amountTo_11 (by decide) (by omega) (by omega) (fun c11 => ?_) (fun c11 => ?_)
      · replace hR := (if_pos c11).symm.trans hR
        exact X_5 x2_5 x4_5 (by first | assumption | omega | exact hw_upb (by assumption) (by omega)) H locs hP hD hS ls (lv_sub hl [0, 1, 2, 3] rfl) hR
      · replace hR := (if_neg c11).symm.trans hR
        refine lv_lload_n hx hb d_Plan_amountTo_14 rfl (lv_at hl 2 rfl) ?_
        refine lv_aload_n hx hb d_Plan_amountTo_15 rfl (lv_at hl 0 rfl) ?_
        refine lv_iload hx hb d_Plan_amountTo_16 (lv_at hl 3 rfl) ?_
        refine lv_iload_n hx hb d_Plan_amountTo_18 rfl (lv_at hl 1 rfl) ?_
        obtain ⟨y19, hy19, hR⟩ := hw_bind hR
        have hM := c_Plan_amount l dC dI cI cJ cZ H.size aP VP0 VP1 VP2 NP0 LP0 LP1 LP2 LP3 LP4 IP0 IP1 aS VS0 VS1 VS2 NS0 NS1 NS2 LS0 LS1 LS2 LS3 LS4 LS5 LS6 LS7 LS8 IS0 aY VY0 LY0 LY1 LY2 IY0 x4_5 x1 (by first | assumption | omega) (by first | assumption | omega)
        rw [hy19] at hM
        refine hw_callVl (As := [.int (nI x4_5), .int (nI x1)]) (rest := [.long x2_5]) (wr := ([] : va_W)) ⟨hx, hb, hml, hown, hG⟩ hM (hw_cwV 2 hG m_317 m_297 m_298 m_5 m_299 rfl rfl (by decide +kernel) ⟨Nat.le_of_ble_eq_true rfl, Nat.le_of_ble_eq_true rfl⟩) hK hP hD hS hA [0, 1, 2, 3, 4, 5, 6, 7, 8, 9, 10, 11, 12, 13, 14, 15, 16, 17, 18, 19, 20, 21, 22, 23, 24, 25, 26, 27] [] rfl rfl (by decide) (by decide) (by decide) (hw_recv hK hP 0 rfl rfl) rfl hl.1 rfl (Nat.le_of_ble_eq_true rfl) d_Plan_amountTo_19 ⟨Nat.le_of_ble_eq_true rfl, Nat.le_of_ble_eq_true rfl⟩ (fun H locs hP hD hS => ?_)
        have hP : va_P (dC, dI) vwCl (w_P cI cJ cZ aP VP0 VP1 VP2 NP0 LP0 LP1 LP2 LP3 LP4 IP0 IP1 aS ++ w_S cI cJ cZ aS VS0 VS1 VS2 NS0 NS1 NS2 LS0 LS1 LS2 LS3 LS4 LS5 LS6 LS7 LS8 IS0 aY ++ w_Y cI cJ cZ aY VY0 LY0 LY1 LY2 IY0) H := hP
        have hD : va_D A (w_P cI cJ cZ aP VP0 VP1 VP2 NP0 LP0 LP1 LP2 LP3 LP4 IP0 IP1 aS ++ w_S cI cJ cZ aS VS0 VS1 VS2 NS0 NS1 NS2 LS0 LS1 LS2 LS3 LS4 LS5 LS6 LS7 LS8 IS0 aY ++ w_Y cI cJ cZ aY VY0 LY0 LY1 LY2 IY0) := hD
        refine lv_ladd hx hb d_Plan_amountTo_22 ?_
        refine lv_lstore_n (lv' := [(2, .long (x2_5 + y19)), (0, .ref (aP 0)), (1, .int (nI x1)), (4, .int (nI x4_5))]) hx hb d_Plan_amountTo_23 rfl hl (by decide) rfl (fun ls hl => ?_)
        refine lv_iinc (v := nI (x4_5 + 1)) (lv' := [(4, .int (nI (x4_5 + 1))), (2, .long (x2_5 + y19)), (0, .ref (aP 0)), (1, .int (nI x1))]) hx hb d_Plan_amountTo_24 hl (k := 3) rfl (hw_inc _ 1) (by decide) rfl (fun ls hl => ?_)
        refine lv_goto (tgt := 5) hx hb d_Plan_amountTo_27 (by decide) ?_
        rw [hrec_5] at hR
        exact ih_5 (x2_5 + y19) (x4_5 + 1) (by first | assumption | omega | exact hw_upb (by assumption) (by omega)) (by omega) H locs hP hD hS ls (lv_sub hl [2, 3, 1, 0] rfl) hR
  exact L_5 13 0 0 (by first | assumption | omega | exact hw_upb (by assumption) (by omega)) (by omega) H locs hP hD hS ls (lv_sub hl [2, 3, 1, 0] rfl) hR
def f_Plan_amountIn_h5B (VP1 : Nat) (NS2 : Nat → Nat) (x1 : Nat) (VP0 : Nat) (LP1 : Nat → Int64) (k_5 : (Int64) → (Nat) → Int64) (rec_5 : (Int64) → (Nat) → Int64) (x2_5 : Int64) (x4_5 : Nat) : Int64 :=
  if VP1 ≤ x4_5 then (k_5 x2_5 x4_5) else (if (NS2 x4_5) = x1 then (hh_bind (f_Plan_amountTo VP0 LP1 x4_5) (fun y32 => rec_5 (x2_5 + y32) (x4_5 + 1))) else (rec_5 x2_5 (x4_5 + 1)))
def f_Plan_amountIn_h5 (VP1 : Nat) (NS2 : Nat → Nat) (x1 : Nat) (VP0 : Nat) (LP1 : Nat → Int64) (k_5 : (Int64) → (Nat) → Int64) : Nat → (Int64) → (Nat) → Int64
  | 0, x2_5, x4_5 => k_5 x2_5 x4_5
  | n + 1, x2_5, x4_5 => f_Plan_amountIn_h5B VP1 NS2 x1 VP0 LP1 k_5 (fun x2_5 x4_5 => f_Plan_amountIn_h5 VP1 NS2 x1 VP0 LP1 k_5 n x2_5 x4_5) x2_5 x4_5
def f_Plan_amountIn_x5  (x2_5 : Int64) (x4_5 : Nat) : Int64 :=
  (x2_5)
def f_Plan_amountIn (VP0 : Nat) (VP1 : Nat) (LP1 : Nat → Int64) (NS2 : Nat → Nat) (x1 : Nat) : Int64 :=
  f_Plan_amountIn_h5 VP1 NS2 x1 VP0 LP1 f_Plan_amountIn_x5 9 0 0
set_option maxHeartbeats 4000000 in
set_option maxRecDepth 100000 in
theorem c_Plan_amountIn (l : Launch) (dC : Nat → ClassId) (dI : Nat → Nat → Nat) (cI cJ cZ : ClassId) (sz : Nat) (aP : Nat → Nat) (VP0 : Nat) (VP1 : Nat) (VP2 : Nat) (NP0 : Nat → Nat) (LP0 : Nat → Int64) (LP1 : Nat → Int64) (LP2 : Nat → Int64) (LP3 : Nat → Int64) (LP4 : Nat → Int64) (IP0 : Nat → Int32) (IP1 : Nat → Int32) (aS : Nat → Nat) (VS0 : Nat) (VS1 : Nat) (VS2 : Nat) (NS0 : Nat → Nat) (NS1 : Nat → Nat) (NS2 : Nat → Nat) (LS0 : Nat → Int64) (LS1 : Nat → Int64) (LS2 : Nat → Int64) (LS3 : Nat → Int64) (LS4 : Nat → Int64) (LS5 : Nat → Int64) (LS6 : Nat → Int64) (LS7 : Nat → Int64) (LS8 : Nat → Int64) (IS0 : Nat → Int32) (aY : Nat → Nat) (VY0 : Nat) (LY0 : Nat → Int64) (LY1 : Nat → Int64) (LY2 : Nat → Int64) (IY0 : Nat → Int32) (x1 : Nat) (hs12 : VP0 ≤ 12) (hb8 : VP1 ≤ 8) (hfw : ∀ i, NS2 i < 12) (hx1 : x1 < 12) : hh_Cl l y_Plan_amountIn u_Plan_amountIn ({ frames := 2, cells := 0, slots := 0, locals := 46 }) (dC, dI) vwCl [(cI, .int), (cJ, .long), (cZ, .boolean)] (w_P cI cJ cZ aP VP0 VP1 VP2 NP0 LP0 LP1 LP2 LP3 LP4 IP0 IP1 aS ++ w_S cI cJ cZ aS VS0 VS1 VS2 NS0 NS1 NS2 LS0 LS1 LS2 LS3 LS4 LS5 LS6 LS7 LS8 IS0 aY ++ w_Y cI cJ cZ aY VY0 LY0 LY1 LY2 IY0) sz [.ref (aP 0), .int (nI x1)] (f_Plan_amountIn VP0 VP1 LP1 NS2 x1) (w_P cI cJ cZ aP VP0 VP1 VP2 NP0 LP0 LP1 LP2 LP3 LP4 IP0 IP1 aS ++ w_S cI cJ cZ aS VS0 VS1 VS2 NS0 NS1 NS2 LS0 LS1 LS2 LS3 LS4 LS5 LS6 LS7 LS8 IS0 aY ++ w_Y cI cJ cZ aY VY0 LY0 LY1 LY2 IY0) 0 0 := by
  unfold hh_Cl
  refine Met.ofW (cc := b_Plan_amountIn) (maxL := 5) (ret := (some .long)) (by decide) rfl ?_
  intro p e s m args below meth c s₁ B hml hv
  obtain ⟨rfl, hsz, hP, hK, hD0⟩ := hv
  have hx := B.exec
  have hb := B.bytes
  have hr := B.returns
  have hts := atoms_spec (ws := u_Plan_amountIn) B.pre
  have hG : ∀ w ∈ wG, w.before ([.ref (aP 0), .int (nI x1)]).toArray s = true := fun w h => hts w (List.mem_cons_of_mem _ h)
  have hown : s.vm.findClass R_Plan = some m.cls := findClass_of_methodNamed B.named
  have hlocks := B.notSynchronized
  subst hsz
  have hD := hD0.self (sz := s.heap.size)
  generalize hAe : va_A (w_P cI cJ cZ aP VP0 VP1 VP2 NP0 LP0 LP1 LP2 LP3 LP4 IP0 IP1 aS ++ w_S cI cJ cZ aS VS0 VS1 VS2 NS0 NS1 NS2 LS0 LS1 LS2 LS3 LS4 LS5 LS6 LS7 LS8 IS0 aY ++ w_Y cI cJ cZ aY VY0 LY0 LY1 LY2 IY0) s.heap.size = A at hD ⊢
  have hA : ∀ q : Nat, s.heap.size ≤ q → A q := fun q h => by rw [← hAe]; exact Or.inr h
  have hS : va_S A s.heap s.heap [] := va_S.rf
  have hl := lv_entry ([.ref (aP 0), .int (nI x1)]) (n := 5) (Nat.le_of_ble_eq_true rfl)
  rw [lg_entry_eq]
  generalize (lg_sl ([.ref (aP 0), .int (nI x1)]) ++ List.replicate (5 - (lg_sl ([.ref (aP 0), .int (nI x1)])).length) Slot.unset).toArray = ls at hl ⊢
  have hl : lv_has ls 5 [(0, .ref (aP 0)), (1, .int (nI x1))] := hl
  generalize hR : f_Plan_amountIn VP0 VP1 LP1 NS2 x1 = r0
  obtain ⟨H, locs, hHe, hle⟩ : ∃ (H : Heap) (locs : List Loc), s.heap = H ∧ [] = locs := ⟨_, _, rfl, rfl⟩
  have hP : va_P (dC, dI) vwCl (w_P cI cJ cZ aP VP0 VP1 VP2 NP0 LP0 LP1 LP2 LP3 LP4 IP0 IP1 aS ++ w_S cI cJ cZ aS VS0 VS1 VS2 NS0 NS1 NS2 LS0 LS1 LS2 LS3 LS4 LS5 LS6 LS7 LS8 IS0 aY ++ w_Y cI cJ cZ aY VY0 LY0 LY1 LY2 IY0) H := by rw [← hHe]; exact hP
  have hS : va_S A s.heap H locs := by rw [← hHe, ← hle]; exact hS
  refine hw_start hHe hle ?_
  unfold f_Plan_amountIn at hR
  refine lv_lconst (v := 0) hx hb d_Plan_amountIn_0 (by decide) ?_
  refine lv_lstore_n (lv' := [(2, .long 0), (0, .ref (aP 0)), (1, .int (nI x1))]) hx hb d_Plan_amountIn_1 rfl hl (by decide) rfl (fun ls hl => ?_)
  refine lv_iconst (v := nI 0) hx hb d_Plan_amountIn_2 (by decide) ?_
  refine lv_istore (lv' := [(4, .int (nI 0)), (2, .long 0), (0, .ref (aP 0)), (1, .int (nI x1))]) hx hb d_Plan_amountIn_3 hl (by decide) rfl (fun ls hl => ?_)
  obtain ⟨k_5, hk_5, hR⟩ : ∃ k, f_Plan_amountIn_x5 = k ∧ f_Plan_amountIn_h5 VP1 NS2 x1 VP0 LP1 k 9 0 0 = r0 := ⟨_, rfl, hR⟩
  have X_5 : ∀ (x2_5 : Int64) (x4_5 : Nat) (hi : x4_5 ≤ (VP1)) (H : Heap) (locs : List Loc) (hP : va_P (dC, dI) vwCl (w_P cI cJ cZ aP VP0 VP1 VP2 NP0 LP0 LP1 LP2 LP3 LP4 IP0 IP1 aS ++ w_S cI cJ cZ aS VS0 VS1 VS2 NS0 NS1 NS2 LS0 LS1 LS2 LS3 LS4 LS5 LS6 LS7 LS8 IS0 aY ++ w_Y cI cJ cZ aY VY0 LY0 LY1 LY2 IY0) H) (hD : va_D A (w_P cI cJ cZ aP VP0 VP1 VP2 NP0 LP0 LP1 LP2 LP3 LP4 IP0 IP1 aS ++ w_S cI cJ cZ aS VS0 VS1 VS2 NS0 NS1 NS2 LS0 LS1 LS2 LS3 LS4 LS5 LS6 LS7 LS8 IS0 aY ++ w_Y cI cJ cZ aY VY0 LY0 LY1 LY2 IY0)) (hS : va_S A s.heap H locs) (ls : Array Slot) (hl : lv_has ls 5 [(0, .ref (aP 0)), (1, .int (nI x1)), (2, .long x2_5), (4, .int (nI x4_5))]) (hR : k_5 x2_5 x4_5 = r0), W p l e (headSpec u_Plan_amountIn ({ frames := 2, cells := 0, slots := 0, locals := 46 })).room s m ([.ref (aP 0), .int (nI x1)]).toArray below meth c H locs 0 0 (hh_Zl below (dC, dI) vwCl [(cI, .int), (cJ, .long), (cZ, .boolean)] A r0 (w_P cI cJ cZ aP VP0 VP1 VP2 NP0 LP0 LP1 LP2 LP3 LP4 IP0 IP1 aS ++ w_S cI cJ cZ aS VS0 VS1 VS2 NS0 NS1 NS2 LS0 LS1 LS2 LS3 LS4 LS5 LS6 LS7 LS8 IS0 aY ++ w_Y cI cJ cZ aY VY0 LY0 LY1 LY2 IY0) ([.ref (aP 0), .int (nI x1)]).toArray s) (F0 m 43 ls []) := by
    intro x2_5 x4_5 hi H locs hP hD hS ls hl hR
    rw [← hk_5] at hR
    unfold f_Plan_amountIn_x5 at hR
    refine lv_lload_n hx hb d_Plan_amountIn_43 rfl (lv_at hl 2 rfl) ?_
    subst hR
    exact W.lret (v := x2_5) hx hb hr (fun t ht hW => ⟨⟨_, (), rfl, rfl, by rw [ht]; exact hP, va_K.moved hW.alike hK, hD⟩, hS.F ht⟩) hS.2.2 d_Plan_amountIn_44
  have L_5 : ∀ (n : Nat) (x2_5 : Int64) (x4_5 : Nat) (hi : x4_5 ≤ (VP1)) (hfu : (VP1) - x4_5 < n) (H : Heap) (locs : List Loc) (hP : va_P (dC, dI) vwCl (w_P cI cJ cZ aP VP0 VP1 VP2 NP0 LP0 LP1 LP2 LP3 LP4 IP0 IP1 aS ++ w_S cI cJ cZ aS VS0 VS1 VS2 NS0 NS1 NS2 LS0 LS1 LS2 LS3 LS4 LS5 LS6 LS7 LS8 IS0 aY ++ w_Y cI cJ cZ aY VY0 LY0 LY1 LY2 IY0) H) (hD : va_D A (w_P cI cJ cZ aP VP0 VP1 VP2 NP0 LP0 LP1 LP2 LP3 LP4 IP0 IP1 aS ++ w_S cI cJ cZ aS VS0 VS1 VS2 NS0 NS1 NS2 LS0 LS1 LS2 LS3 LS4 LS5 LS6 LS7 LS8 IS0 aY ++ w_Y cI cJ cZ aY VY0 LY0 LY1 LY2 IY0)) (hS : va_S A s.heap H locs) (ls : Array Slot) (hl : lv_has ls 5 [(0, .ref (aP 0)), (1, .int (nI x1)), (2, .long x2_5), (4, .int (nI x4_5))]) (hR : f_Plan_amountIn_h5 VP1 NS2 x1 VP0 LP1 k_5 n x2_5 x4_5 = r0), W p l e (headSpec u_Plan_amountIn ({ frames := 2, cells := 0, slots := 0, locals := 46 })).room s m ([.ref (aP 0), .int (nI x1)]).toArray below meth c H locs 0 0 (hh_Zl below (dC, dI) vwCl [(cI, .int), (cJ, .long), (cZ, .boolean)] A r0 (w_P cI cJ cZ aP VP0 VP1 VP2 NP0 LP0 LP1 LP2 LP3 LP4 IP0 IP1 aS ++ w_S cI cJ cZ aS VS0 VS1 VS2 NS0 NS1 NS2 LS0 LS1 LS2 LS3 LS4 LS5 LS6 LS7 LS8 IS0 aY ++ w_Y cI cJ cZ aY VY0 LY0 LY1 LY2 IY0) ([.ref (aP 0), .int (nI x1)]).toArray s) (F0 m 5 ls []) := by
    intro n
    induction n with
    | zero =>
      intro x2_5 x4_5 hi hfu H locs hP hD hS ls hl hR
      exact absurd hfu (Nat.not_lt_zero _)
    | succ n ih_5 =>
      intro x2_5 x4_5 hi hfu H locs hP hD hS ls hl hR
      rw [f_Plan_amountIn_h5] at hR
      obtain ⟨rec_5, hrec_5, hR⟩ : ∃ r, r = _ ∧ f_Plan_amountIn_h5B VP1 NS2 x1 VP0 LP1 k_5 r x2_5 x4_5 = r0 := ⟨_, rfl, hR⟩
      unfold f_Plan_amountIn_h5B at hR
      refine lv_iload hx hb d_Plan_amountIn_5 (lv_at hl 3 rfl) ?_
      refine lv_aload_n hx hb d_Plan_amountIn_7 rfl (lv_at hl 0 rfl) ?_
      refine va_get (D := (dC, dI)) (ci := 0) (v := .int (nI VP1)) (C := R_Plan) (T := T_Plan) (N := 12) hx hb hG in_Plan hown hK hP 0 rfl rfl 2 (by decide) (hG _ m_133) (fun _ h9 => h9) rfl d_Plan_amountIn_8 ?_
      refine hw_icmp_ge (tgt := 43) hx hb d_Plan_amountIn_11 (by decide) (by omega) (by omega) (fun c11 => ?_) (fun c11 => ?_)
      · replace hR := (if_pos c11).symm.trans hR
        exact X_5 x2_5 x4_5 (by first | assumption | omega | exact hw_upb (by assumption) (by omega)) H locs hP hD hS ls (lv_sub hl [0, 1, 2, 3] rfl) hR
      · replace hR := (if_neg c11).symm.trans hR
        refine lv_aload_n hx hb d_Plan_amountIn_14 rfl (lv_at hl 0 rfl) ?_
        refine va_get (D := (dC, dI)) (ci := 0) (v := .ref (aS 0)) (C := R_Plan) (T := T_Plan) (N := 12) hx hb hG in_Plan hown hK hP 0 rfl rfl 0 (by decide) (hG _ m_131) (fun _ h9 => h9) rfl d_Plan_amountIn_15 ?_
        refine va_get (D := (dC, dI)) (ci := 2) (v := .ref (aS 9)) (C := R_Site) (T := T_Site) (N := 17) hx hb hG in_Site hown hK hP 9 rfl rfl 12 (by decide) (hG _ m_80) (fun _ h9 => h9) rfl d_Plan_amountIn_18 ?_
        refine lv_iload hx hb d_Plan_amountIn_21 (lv_at hl 3 rfl) ?_
        refine hw_nald (g := NS2) hx hb hK hP 18 0 rfl rfl (by decide) (by omega) d_Plan_amountIn_23 ?_
        have hb23 := hfw x4_5
        refine lv_iload_n hx hb d_Plan_amountIn_24 rfl (lv_at hl 1 rfl) ?_
        refine hw_icmp_ne (tgt := 37) hx hb d_Plan_amountIn_25 (by decide) (by omega) (by omega) (fun c25 => ?_) (fun c25 => ?_)
        · replace hR := (if_neg c25).symm.trans hR
          refine lv_iinc (v := nI (x4_5 + 1)) (lv' := [(4, .int (nI (x4_5 + 1))), (0, .ref (aP 0)), (1, .int (nI x1)), (2, .long x2_5)]) hx hb d_Plan_amountIn_37 hl (k := 3) rfl (hw_inc _ 1) (by decide) rfl (fun ls hl => ?_)
          refine lv_goto (tgt := 5) hx hb d_Plan_amountIn_40 (by decide) ?_
          rw [hrec_5] at hR
          exact ih_5 x2_5 (x4_5 + 1) (by first | assumption | omega | exact hw_upb (by assumption) (by omega)) (by omega) H locs hP hD hS ls (lv_sub hl [1, 2, 3, 0] rfl) hR
        · replace hR := (if_pos c25).symm.trans hR
          refine lv_lload_n hx hb d_Plan_amountIn_28 rfl (lv_at hl 2 rfl) ?_
          refine lv_aload_n hx hb d_Plan_amountIn_29 rfl (lv_at hl 0 rfl) ?_
          refine lv_iload hx hb d_Plan_amountIn_30 (lv_at hl 3 rfl) ?_
          obtain ⟨y32, hy32, hR⟩ := hw_bind hR
          have hM := c_Plan_amountTo l dC dI cI cJ cZ H.size aP VP0 VP1 VP2 NP0 LP0 LP1 LP2 LP3 LP4 IP0 IP1 aS VS0 VS1 VS2 NS0 NS1 NS2 LS0 LS1 LS2 LS3 LS4 LS5 LS6 LS7 LS8 IS0 aY VY0 LY0 LY1 LY2 IY0 x4_5 (by first | assumption | omega) (by first | assumption | omega)
          rw [hy32] at hM
          refine hw_callVl (As := [.int (nI x4_5)]) (rest := [.long x2_5]) (wr := ([] : va_W)) ⟨hx, hb, hml, hown, hG⟩ hM (hw_cwV 1 hG m_460 m_453 m_454 m_5 m_455 rfl rfl (by decide +kernel) ⟨Nat.le_of_ble_eq_true rfl, Nat.le_of_ble_eq_true rfl⟩) hK hP hD hS hA [0, 1, 2, 3, 4, 5, 6, 7, 8, 9, 10, 11, 12, 13, 14, 15, 16, 17, 18, 19, 20, 21, 22, 23, 24, 25, 26, 27] [] rfl rfl (by decide) (by decide) (by decide) (hw_recv hK hP 0 rfl rfl) rfl hl.1 rfl (Nat.le_of_ble_eq_true rfl) d_Plan_amountIn_32 ⟨Nat.le_of_ble_eq_true rfl, Nat.le_of_ble_eq_true rfl⟩ (fun H locs hP hD hS => ?_)
          have hP : va_P (dC, dI) vwCl (w_P cI cJ cZ aP VP0 VP1 VP2 NP0 LP0 LP1 LP2 LP3 LP4 IP0 IP1 aS ++ w_S cI cJ cZ aS VS0 VS1 VS2 NS0 NS1 NS2 LS0 LS1 LS2 LS3 LS4 LS5 LS6 LS7 LS8 IS0 aY ++ w_Y cI cJ cZ aY VY0 LY0 LY1 LY2 IY0) H := hP
          have hD : va_D A (w_P cI cJ cZ aP VP0 VP1 VP2 NP0 LP0 LP1 LP2 LP3 LP4 IP0 IP1 aS ++ w_S cI cJ cZ aS VS0 VS1 VS2 NS0 NS1 NS2 LS0 LS1 LS2 LS3 LS4 LS5 LS6 LS7 LS8 IS0 aY ++ w_Y cI cJ cZ aY VY0 LY0 LY1 LY2 IY0) := hD
          refine lv_ladd hx hb d_Plan_amountIn_35 ?_
          refine lv_lstore_n (lv' := [(2, .long (x2_5 + y32)), (0, .ref (aP 0)), (1, .int (nI x1)), (4, .int (nI x4_5))]) hx hb d_Plan_amountIn_36 rfl hl (by decide) rfl (fun ls hl => ?_)
          refine lv_iinc (v := nI (x4_5 + 1)) (lv' := [(4, .int (nI (x4_5 + 1))), (2, .long (x2_5 + y32)), (0, .ref (aP 0)), (1, .int (nI x1))]) hx hb d_Plan_amountIn_37 hl (k := 3) rfl (hw_inc _ 1) (by decide) rfl (fun ls hl => ?_)
          refine lv_goto (tgt := 5) hx hb d_Plan_amountIn_40 (by decide) ?_
          rw [hrec_5] at hR
          exact ih_5 (x2_5 + y32) (x4_5 + 1) (by first | assumption | omega | exact hw_upb (by assumption) (by omega)) (by omega) H locs hP hD hS ls (lv_sub hl [2, 3, 1, 0] rfl) hR
  exact L_5 9 0 0 (by first | assumption | omega | exact hw_upb (by assumption) (by omega)) (by omega) H locs hP hD hS ls (lv_sub hl [2, 3, 1, 0] rfl) hR
def f_Plan_amountAcross_h39B (VP1 : Nat) (x1 : Int64) (LS5 : Nat → Int64) (x3 : Int32) (LP1 : Nat → Int64) (x6_6 : Nat) (k_39 : (Int64) → (Nat) → (Nat) → Int64) (rec_39 : (Int64) → (Nat) → (Nat) → Int64) (x4_39 : Int64) (x7_39 : Nat) (x8_39 : Nat) : Int64 :=
  if VP1 ≤ x8_39 then (k_39 x4_39 x7_39 x8_39) else (if x1 < (LS5 x8_39) then (if (nI x7_39) = x3 then (if (nI 0) = x3 then (rec_39 x4_39 x7_39 (x8_39 + 1)) else (hh_bind (f_Plan_amount LP1 x6_6 x8_39) (fun y89 => rec_39 (x4_39 + y89) x7_39 (x8_39 + 1)))) else (rec_39 x4_39 x7_39 (x8_39 + 1))) else (if (nI x7_39) = x3 then (if (nI 1) = x3 then (rec_39 x4_39 x7_39 (x8_39 + 1)) else (hh_bind (f_Plan_amount LP1 x6_6 x8_39) (fun y89 => rec_39 (x4_39 + y89) x7_39 (x8_39 + 1)))) else (rec_39 x4_39 x7_39 (x8_39 + 1))))
def f_Plan_amountAcross_h39 (VP1 : Nat) (x1 : Int64) (LS5 : Nat → Int64) (x3 : Int32) (LP1 : Nat → Int64) (x6_6 : Nat) (k_39 : (Int64) → (Nat) → (Nat) → Int64) : Nat → (Int64) → (Nat) → (Nat) → Int64
  | 0, x4_39, x7_39, x8_39 => k_39 x4_39 x7_39 x8_39
  | n + 1, x4_39, x7_39, x8_39 => f_Plan_amountAcross_h39B VP1 x1 LS5 x3 LP1 x6_6 k_39 (fun x4_39 x7_39 x8_39 => f_Plan_amountAcross_h39 VP1 x1 LS5 x3 LP1 x6_6 k_39 n x4_39 x7_39 x8_39) x4_39 x7_39 x8_39
def f_Plan_amountAcross_x39 (rec_6 : (Int64) → (Nat) → Int64) (x6_6 : Nat) (x4_39 : Int64) (x7_39 : Nat) (x8_39 : Nat) : Int64 :=
  rec_6 x4_39 (x6_6 + 1)
def f_Plan_amountAcross_h6B (VP0 : Nat) (VS0 : Nat) (LS1 : Nat → Int64) (LS2 : Nat → Int64) (x1 : Int64) (VP1 : Nat) (LS5 : Nat → Int64) (x3 : Int32) (LP1 : Nat → Int64) (k_6 : (Int64) → (Nat) → Int64) (rec_6 : (Int64) → (Nat) → Int64) (x4_6 : Int64) (x6_6 : Nat) : Int64 :=
  if VP0 ≤ x6_6 then (k_6 x4_6 x6_6) else (hh_bind (f_Site_metreOf VS0 LS1 LS2 x6_6) (fun y21 => if x1 < y21 then (f_Plan_amountAcross_h39 VP1 x1 LS5 x3 LP1 x6_6 (f_Plan_amountAcross_x39 rec_6 x6_6) 9 x4_6 0 0) else (f_Plan_amountAcross_h39 VP1 x1 LS5 x3 LP1 x6_6 (f_Plan_amountAcross_x39 rec_6 x6_6) 9 x4_6 1 0)))
def f_Plan_amountAcross_h6 (VP0 : Nat) (VS0 : Nat) (LS1 : Nat → Int64) (LS2 : Nat → Int64) (x1 : Int64) (VP1 : Nat) (LS5 : Nat → Int64) (x3 : Int32) (LP1 : Nat → Int64) (k_6 : (Int64) → (Nat) → Int64) : Nat → (Int64) → (Nat) → Int64
  | 0, x4_6, x6_6 => k_6 x4_6 x6_6
  | n + 1, x4_6, x6_6 => f_Plan_amountAcross_h6B VP0 VS0 LS1 LS2 x1 VP1 LS5 x3 LP1 k_6 (fun x4_6 x6_6 => f_Plan_amountAcross_h6 VP0 VS0 LS1 LS2 x1 VP1 LS5 x3 LP1 k_6 n x4_6 x6_6) x4_6 x6_6
def f_Plan_amountAcross_x6  (x4_6 : Int64) (x6_6 : Nat) : Int64 :=
  (x4_6)
def f_Plan_amountAcross (VP0 : Nat) (VP1 : Nat) (LP1 : Nat → Int64) (VS0 : Nat) (LS1 : Nat → Int64) (LS2 : Nat → Int64) (LS5 : Nat → Int64) (x1 : Int64) (x3 : Int32) : Int64 :=
  f_Plan_amountAcross_h6 VP0 VS0 LS1 LS2 x1 VP1 LS5 x3 LP1 f_Plan_amountAcross_x6 13 0 0
set_option maxHeartbeats 4000000 in
set_option maxRecDepth 100000 in
theorem c_Plan_amountAcross (l : Launch) (dC : Nat → ClassId) (dI : Nat → Nat → Nat) (cI cJ cZ : ClassId) (sz : Nat) (aP : Nat → Nat) (VP0 : Nat) (VP1 : Nat) (VP2 : Nat) (NP0 : Nat → Nat) (LP0 : Nat → Int64) (LP1 : Nat → Int64) (LP2 : Nat → Int64) (LP3 : Nat → Int64) (LP4 : Nat → Int64) (IP0 : Nat → Int32) (IP1 : Nat → Int32) (aS : Nat → Nat) (VS0 : Nat) (VS1 : Nat) (VS2 : Nat) (NS0 : Nat → Nat) (NS1 : Nat → Nat) (NS2 : Nat → Nat) (LS0 : Nat → Int64) (LS1 : Nat → Int64) (LS2 : Nat → Int64) (LS3 : Nat → Int64) (LS4 : Nat → Int64) (LS5 : Nat → Int64) (LS6 : Nat → Int64) (LS7 : Nat → Int64) (LS8 : Nat → Int64) (IS0 : Nat → Int32) (aY : Nat → Nat) (VY0 : Nat) (LY0 : Nat → Int64) (LY1 : Nat → Int64) (LY2 : Nat → Int64) (IY0 : Nat → Int32) (x1 : Int64) (x3 : Int32) (hs12 : VP0 ≤ 12) (hb8 : VP1 ≤ 8) (hc8 : VS0 ≤ 8) (hp4 : VS1 ≤ 4) (hvs : VP0 ≤ VS0 + VS1) : hh_Cl l y_Plan_amountAcross u_Plan_amountAcross ({ frames := 1, cells := 0, slots := 0, locals := 22 }) (dC, dI) vwCl [(cI, .int), (cJ, .long), (cZ, .boolean)] (w_P cI cJ cZ aP VP0 VP1 VP2 NP0 LP0 LP1 LP2 LP3 LP4 IP0 IP1 aS ++ w_S cI cJ cZ aS VS0 VS1 VS2 NS0 NS1 NS2 LS0 LS1 LS2 LS3 LS4 LS5 LS6 LS7 LS8 IS0 aY ++ w_Y cI cJ cZ aY VY0 LY0 LY1 LY2 IY0) sz [.ref (aP 0), .long x1, .int x3] (f_Plan_amountAcross VP0 VP1 LP1 VS0 LS1 LS2 LS5 x1 x3) (w_P cI cJ cZ aP VP0 VP1 VP2 NP0 LP0 LP1 LP2 LP3 LP4 IP0 IP1 aS ++ w_S cI cJ cZ aS VS0 VS1 VS2 NS0 NS1 NS2 LS0 LS1 LS2 LS3 LS4 LS5 LS6 LS7 LS8 IS0 aY ++ w_Y cI cJ cZ aY VY0 LY0 LY1 LY2 IY0) 0 0 := by
  unfold hh_Cl
  refine Met.ofW (cc := b_Plan_amountAcross) (maxL := 10) (ret := (some .long)) (by decide) rfl ?_
  intro p e s m args below meth c s₁ B hml hv
  obtain ⟨rfl, hsz, hP, hK, hD0⟩ := hv
  have hx := B.exec
  have hb := B.bytes
  have hr := B.returns
  have hts := atoms_spec (ws := u_Plan_amountAcross) B.pre
  have hG : ∀ w ∈ wG, w.before ([.ref (aP 0), .long x1, .int x3]).toArray s = true := fun w h => hts w (List.mem_cons_of_mem _ h)
  have hown : s.vm.findClass R_Plan = some m.cls := findClass_of_methodNamed B.named
  have hlocks := B.notSynchronized
  subst hsz
  have hD := hD0.self (sz := s.heap.size)
  generalize hAe : va_A (w_P cI cJ cZ aP VP0 VP1 VP2 NP0 LP0 LP1 LP2 LP3 LP4 IP0 IP1 aS ++ w_S cI cJ cZ aS VS0 VS1 VS2 NS0 NS1 NS2 LS0 LS1 LS2 LS3 LS4 LS5 LS6 LS7 LS8 IS0 aY ++ w_Y cI cJ cZ aY VY0 LY0 LY1 LY2 IY0) s.heap.size = A at hD ⊢
  have hA : ∀ q : Nat, s.heap.size ≤ q → A q := fun q h => by rw [← hAe]; exact Or.inr h
  have hS : va_S A s.heap s.heap [] := va_S.rf
  have hl := lv_entry ([.ref (aP 0), .long x1, .int x3]) (n := 10) (Nat.le_of_ble_eq_true rfl)
  rw [lg_entry_eq]
  generalize (lg_sl ([.ref (aP 0), .long x1, .int x3]) ++ List.replicate (10 - (lg_sl ([.ref (aP 0), .long x1, .int x3])).length) Slot.unset).toArray = ls at hl ⊢
  have hl : lv_has ls 10 [(0, .ref (aP 0)), (1, .long x1), (3, .int x3)] := hl
  generalize hR : f_Plan_amountAcross VP0 VP1 LP1 VS0 LS1 LS2 LS5 x1 x3 = r0
  obtain ⟨H, locs, hHe, hle⟩ : ∃ (H : Heap) (locs : List Loc), s.heap = H ∧ [] = locs := ⟨_, _, rfl, rfl⟩
  have hP : va_P (dC, dI) vwCl (w_P cI cJ cZ aP VP0 VP1 VP2 NP0 LP0 LP1 LP2 LP3 LP4 IP0 IP1 aS ++ w_S cI cJ cZ aS VS0 VS1 VS2 NS0 NS1 NS2 LS0 LS1 LS2 LS3 LS4 LS5 LS6 LS7 LS8 IS0 aY ++ w_Y cI cJ cZ aY VY0 LY0 LY1 LY2 IY0) H := by rw [← hHe]; exact hP
  have hS : va_S A s.heap H locs := by rw [← hHe, ← hle]; exact hS
  refine hw_start hHe hle ?_
  unfold f_Plan_amountAcross at hR
  refine lv_lconst (v := 0) hx hb d_Plan_amountAcross_0 (by decide) ?_
  refine lv_lstore (lv' := [(4, .long 0), (0, .ref (aP 0)), (1, .long x1), (3, .int x3)]) hx hb d_Plan_amountAcross_1 hl (by decide) rfl (fun ls hl => ?_)
  refine lv_iconst (v := nI 0) hx hb d_Plan_amountAcross_3 (by decide) ?_
  refine lv_istore (lv' := [(6, .int (nI 0)), (4, .long 0), (0, .ref (aP 0)), (1, .long x1), (3, .int x3)]) hx hb d_Plan_amountAcross_4 hl (by decide) rfl (fun ls hl => ?_)
  obtain ⟨k_6, hk_6, hR⟩ : ∃ k, f_Plan_amountAcross_x6 = k ∧ f_Plan_amountAcross_h6 VP0 VS0 LS1 LS2 x1 VP1 LS5 x3 LP1 k 13 0 0 = r0 := ⟨_, rfl, hR⟩
  have X_6 : ∀ (x4_6 : Int64) (x6_6 : Nat) (hi : x6_6 ≤ VP0) (H : Heap) (locs : List Loc) (hP : va_P (dC, dI) vwCl (w_P cI cJ cZ aP VP0 VP1 VP2 NP0 LP0 LP1 LP2 LP3 LP4 IP0 IP1 aS ++ w_S cI cJ cZ aS VS0 VS1 VS2 NS0 NS1 NS2 LS0 LS1 LS2 LS3 LS4 LS5 LS6 LS7 LS8 IS0 aY ++ w_Y cI cJ cZ aY VY0 LY0 LY1 LY2 IY0) H) (hD : va_D A (w_P cI cJ cZ aP VP0 VP1 VP2 NP0 LP0 LP1 LP2 LP3 LP4 IP0 IP1 aS ++ w_S cI cJ cZ aS VS0 VS1 VS2 NS0 NS1 NS2 LS0 LS1 LS2 LS3 LS4 LS5 LS6 LS7 LS8 IS0 aY ++ w_Y cI cJ cZ aY VY0 LY0 LY1 LY2 IY0)) (hS : va_S A s.heap H locs) (ls : Array Slot) (hl : lv_has ls 10 [(0, .ref (aP 0)), (1, .long x1), (3, .int x3), (4, .long x4_6), (6, .int (nI x6_6))]) (hR : k_6 x4_6 x6_6 = r0), W p l e (headSpec u_Plan_amountAcross ({ frames := 1, cells := 0, slots := 0, locals := 22 })).room s m ([.ref (aP 0), .long x1, .int x3]).toArray below meth c H locs 0 0 (hh_Zl below (dC, dI) vwCl [(cI, .int), (cJ, .long), (cZ, .boolean)] A r0 (w_P cI cJ cZ aP VP0 VP1 VP2 NP0 LP0 LP1 LP2 LP3 LP4 IP0 IP1 aS ++ w_S cI cJ cZ aS VS0 VS1 VS2 NS0 NS1 NS2 LS0 LS1 LS2 LS3 LS4 LS5 LS6 LS7 LS8 IS0 aY ++ w_Y cI cJ cZ aY VY0 LY0 LY1 LY2 IY0) ([.ref (aP 0), .long x1, .int x3]).toArray s) (F0 m 107 ls []) := by
    intro x4_6 x6_6 hi H locs hP hD hS ls hl hR
    rw [← hk_6] at hR
    unfold f_Plan_amountAcross_x6 at hR
    refine lv_lload hx hb d_Plan_amountAcross_107 (lv_at hl 3 rfl) ?_
    subst hR
    exact W.lret (v := x4_6) hx hb hr (fun t ht hW => ⟨⟨_, (), rfl, rfl, by rw [ht]; exact hP, va_K.moved hW.alike hK, hD⟩, hS.F ht⟩) hS.2.2 d_Plan_amountAcross_109
  have L_6 : ∀ (n : Nat) (x4_6 : Int64) (x6_6 : Nat) (hi : x6_6 ≤ VP0) (hfu : VP0 - x6_6 < n) (H : Heap) (locs : List Loc) (hP : va_P (dC, dI) vwCl (w_P cI cJ cZ aP VP0 VP1 VP2 NP0 LP0 LP1 LP2 LP3 LP4 IP0 IP1 aS ++ w_S cI cJ cZ aS VS0 VS1 VS2 NS0 NS1 NS2 LS0 LS1 LS2 LS3 LS4 LS5 LS6 LS7 LS8 IS0 aY ++ w_Y cI cJ cZ aY VY0 LY0 LY1 LY2 IY0) H) (hD : va_D A (w_P cI cJ cZ aP VP0 VP1 VP2 NP0 LP0 LP1 LP2 LP3 LP4 IP0 IP1 aS ++ w_S cI cJ cZ aS VS0 VS1 VS2 NS0 NS1 NS2 LS0 LS1 LS2 LS3 LS4 LS5 LS6 LS7 LS8 IS0 aY ++ w_Y cI cJ cZ aY VY0 LY0 LY1 LY2 IY0)) (hS : va_S A s.heap H locs) (ls : Array Slot) (hl : lv_has ls 10 [(0, .ref (aP 0)), (1, .long x1), (3, .int x3), (4, .long x4_6), (6, .int (nI x6_6))]) (hR : f_Plan_amountAcross_h6 VP0 VS0 LS1 LS2 x1 VP1 LS5 x3 LP1 k_6 n x4_6 x6_6 = r0), W p l e (headSpec u_Plan_amountAcross ({ frames := 1, cells := 0, slots := 0, locals := 22 })).room s m ([.ref (aP 0), .long x1, .int x3]).toArray below meth c H locs 0 0 (hh_Zl below (dC, dI) vwCl [(cI, .int), (cJ, .long), (cZ, .boolean)] A r0 (w_P cI cJ cZ aP VP0 VP1 VP2 NP0 LP0 LP1 LP2 LP3 LP4 IP0 IP1 aS ++ w_S cI cJ cZ aS VS0 VS1 VS2 NS0 NS1 NS2 LS0 LS1 LS2 LS3 LS4 LS5 LS6 LS7 LS8 IS0 aY ++ w_Y cI cJ cZ aY VY0 LY0 LY1 LY2 IY0) ([.ref (aP 0), .long x1, .int x3]).toArray s) (F0 m 6 ls []) := by
    intro n
    induction n with
    | zero =>
      intro x4_6 x6_6 hi hfu H locs hP hD hS ls hl hR
      exact absurd hfu (Nat.not_lt_zero _)
    | succ n ih_6 =>
      intro x4_6 x6_6 hi hfu H locs hP hD hS ls hl hR
      rw [f_Plan_amountAcross_h6] at hR
      obtain ⟨rec_6, hrec_6, hR⟩ : ∃ r, r = _ ∧ f_Plan_amountAcross_h6B VP0 VS0 LS1 LS2 x1 VP1 LS5 x3 LP1 k_6 r x4_6 x6_6 = r0 := ⟨_, rfl, hR⟩
      unfold f_Plan_amountAcross_h6B at hR
      refine lv_iload hx hb d_Plan_amountAcross_6 (lv_at hl 4 rfl) ?_
      refine lv_aload_n hx hb d_Plan_amountAcross_8 rfl (lv_at hl 0 rfl) ?_
      refine va_get (D := (dC, dI)) (ci := 0) (v := .int (nI VP0)) (C := R_Plan) (T := T_Plan) (N := 12) hx hb hG in_Plan hown hK hP 0 rfl rfl 1 (by decide) (hG _ m_132) (fun _ h9 => h9) rfl d_Plan_amountAcross_9 ?_
      refine hw_icmp_ge (tgt := 107) hx hb d_Plan_amountAcross_12 (by decide) (by omega) (by omega) (fun c12 => ?_) (fun c12 => ?_)
      · replace hR := (if_pos c12).symm.trans hR
        exact X_6 x4_6 x6_6 (by first | assumption | omega | exact hw_upb (by assumption) (by omega)) H locs hP hD hS ls (lv_sub hl [0, 1, 2, 3, 4] rfl) hR
      · replace hR := (if_neg c12).symm.trans hR
        refine lv_aload_n hx hb d_Plan_amountAcross_15 rfl (lv_at hl 0 rfl) ?_
        refine va_get (D := (dC, dI)) (ci := 0) (v := .ref (aS 0)) (C := R_Plan) (T := T_Plan) (N := 12) hx hb hG in_Plan hown hK hP 0 rfl rfl 0 (by decide) (hG _ m_131) (fun _ h9 => h9) rfl d_Plan_amountAcross_16 ?_
        refine lv_iload hx hb d_Plan_amountAcross_19 (lv_at hl 4 rfl) ?_
        obtain ⟨y21, hy21, hR⟩ := hw_bind hR
        have hM := c_Site_metreOf l dC dI cI cJ cZ H.size aS VS0 VS1 VS2 NS0 NS1 NS2 LS0 LS1 LS2 LS3 LS4 LS5 LS6 LS7 LS8 IS0 aY VY0 LY0 LY1 LY2 IY0 x6_6 (by first | assumption | omega) (by first | assumption | omega) (by first | assumption | omega)
        rw [hy21] at hM
        refine hw_callVl (As := [.int (nI x6_6)]) (rest := []) (wr := w_P cI cJ cZ aP VP0 VP1 VP2 NP0 LP0 LP1 LP2 LP3 LP4 IP0 IP1 aS) ⟨hx, hb, hml, hown, hG⟩ hM (hw_cwV 1 hG m_446 m_396 m_397 m_2 m_398 rfl rfl (by decide +kernel) ⟨Nat.le_of_ble_eq_true rfl, Nat.le_of_ble_eq_true rfl⟩) hK hP hD hS hA [9, 10, 11, 12, 13, 14, 15, 16, 17, 18, 19, 20, 21, 22, 23, 24, 25, 26, 27] [0, 1, 2, 3, 4, 5, 6, 7, 8] rfl rfl (by decide) (by decide) (by decide) (hw_recv hK hP 9 rfl rfl) rfl hl.1 rfl (Nat.le_of_ble_eq_true rfl) d_Plan_amountAcross_21 ⟨Nat.le_of_ble_eq_true rfl, Nat.le_of_ble_eq_true rfl⟩ (fun H locs hP hD hS => ?_)
        have hP : va_P (dC, dI) vwCl (w_P cI cJ cZ aP VP0 VP1 VP2 NP0 LP0 LP1 LP2 LP3 LP4 IP0 IP1 aS ++ w_S cI cJ cZ aS VS0 VS1 VS2 NS0 NS1 NS2 LS0 LS1 LS2 LS3 LS4 LS5 LS6 LS7 LS8 IS0 aY ++ w_Y cI cJ cZ aY VY0 LY0 LY1 LY2 IY0) H := hP
        have hD : va_D A (w_P cI cJ cZ aP VP0 VP1 VP2 NP0 LP0 LP1 LP2 LP3 LP4 IP0 IP1 aS ++ w_S cI cJ cZ aS VS0 VS1 VS2 NS0 NS1 NS2 LS0 LS1 LS2 LS3 LS4 LS5 LS6 LS7 LS8 IS0 aY ++ w_Y cI cJ cZ aY VY0 LY0 LY1 LY2 IY0) := hD
        refine lv_lload_n hx hb d_Plan_amountAcross_24 rfl (lv_at hl 1 rfl) ?_
        refine hw_lcmp_gt (tgt := 33) hx hb d_Plan_amountAcross_25 d_Plan_amountAcross_26 (by decide) (fun c25 => ?_) (fun c25 => ?_)
        · replace hR := (if_pos c25).symm.trans hR
          refine lv_iconst (v := nI 0) hx hb d_Plan_amountAcross_33 (by decide) ?_
          refine lv_istore (lv' := [(7, .int (nI 0)), (0, .ref (aP 0)), (1, .long x1), (3, .int x3), (4, .long x4_6), (6, .int (nI x6_6))]) hx hb d_Plan_amountAcross_34 hl (by decide) rfl (fun ls hl => ?_)
          refine lv_iconst (v := nI 0) hx hb d_Plan_amountAcross_36 (by decide) ?_
          refine lv_istore (lv' := [(8, .int (nI 0)), (7, .int (nI 0)), (0, .ref (aP 0)), (1, .long x1), (3, .int x3), (4, .long x4_6), (6, .int (nI x6_6))]) hx hb d_Plan_amountAcross_37 hl (by decide) rfl (fun ls hl => ?_)
          obtain ⟨k_39, hk_39, hR⟩ : ∃ k, (f_Plan_amountAcross_x39 rec_6 x6_6) = k ∧ f_Plan_amountAcross_h39 VP1 x1 LS5 x3 LP1 x6_6 k 9 x4_6 0 0 = r0 := ⟨_, rfl, hR⟩
          have X_39 : ∀ (x4_39 : Int64) (x7_39 : Nat) (x8_39 : Nat) (hi : x8_39 ≤ VP1) (H : Heap) (locs : List Loc) (hP : va_P (dC, dI) vwCl (w_P cI cJ cZ aP VP0 VP1 VP2 NP0 LP0 LP1 LP2 LP3 LP4 IP0 IP1 aS ++ w_S cI cJ cZ aS VS0 VS1 VS2 NS0 NS1 NS2 LS0 LS1 LS2 LS3 LS4 LS5 LS6 LS7 LS8 IS0 aY ++ w_Y cI cJ cZ aY VY0 LY0 LY1 LY2 IY0) H) (hD : va_D A (w_P cI cJ cZ aP VP0 VP1 VP2 NP0 LP0 LP1 LP2 LP3 LP4 IP0 IP1 aS ++ w_S cI cJ cZ aS VS0 VS1 VS2 NS0 NS1 NS2 LS0 LS1 LS2 LS3 LS4 LS5 LS6 LS7 LS8 IS0 aY ++ w_Y cI cJ cZ aY VY0 LY0 LY1 LY2 IY0)) (hS : va_S A s.heap H locs) (ls : Array Slot) (hl : lv_has ls 10 [(0, .ref (aP 0)), (1, .long x1), (3, .int x3), (4, .long x4_39), (6, .int (nI x6_6)), (7, .int (nI x7_39)), (8, .int (nI x8_39))]) (hR : k_39 x4_39 x7_39 x8_39 = r0), W p l e (headSpec u_Plan_amountAcross ({ frames := 1, cells := 0, slots := 0, locals := 22 })).room s m ([.ref (aP 0), .long x1, .int x3]).toArray below meth c H locs 0 0 (hh_Zl below (dC, dI) vwCl [(cI, .int), (cJ, .long), (cZ, .boolean)] A r0 (w_P cI cJ cZ aP VP0 VP1 VP2 NP0 LP0 LP1 LP2 LP3 LP4 IP0 IP1 aS ++ w_S cI cJ cZ aS VS0 VS1 VS2 NS0 NS1 NS2 LS0 LS1 LS2 LS3 LS4 LS5 LS6 LS7 LS8 IS0 aY ++ w_Y cI cJ cZ aY VY0 LY0 LY1 LY2 IY0) ([.ref (aP 0), .long x1, .int x3]).toArray s) (F0 m 101 ls []) := by
            intro x4_39 x7_39 x8_39 hi H locs hP hD hS ls hl hR
            rw [← hk_39] at hR
            unfold f_Plan_amountAcross_x39 at hR
            refine lv_iinc (v := nI (x6_6 + 1)) (lv' := [(6, .int (nI (x6_6 + 1))), (0, .ref (aP 0)), (1, .long x1), (3, .int x3), (4, .long x4_39), (7, .int (nI x7_39)), (8, .int (nI x8_39))]) hx hb d_Plan_amountAcross_101 hl (k := 4) rfl (hw_inc _ 1) (by decide) rfl (fun ls hl => ?_)
            refine lv_goto (tgt := 6) hx hb d_Plan_amountAcross_104 (by decide) ?_
            rw [hrec_6] at hR
            exact ih_6 x4_39 (x6_6 + 1) (by first | assumption | omega | exact hw_upb (by assumption) (by omega)) (by omega) H locs hP hD hS ls (lv_sub hl [1, 2, 3, 4, 0] rfl) hR
          have L_39 : ∀ (n : Nat) (x4_39 : Int64) (x7_39 : Nat) (x8_39 : Nat) (hi : x8_39 ≤ VP1) (hfu : VP1 - x8_39 < n) (H : Heap) (locs : List Loc) (hP : va_P (dC, dI) vwCl (w_P cI cJ cZ aP VP0 VP1 VP2 NP0 LP0 LP1 LP2 LP3 LP4 IP0 IP1 aS ++ w_S cI cJ cZ aS VS0 VS1 VS2 NS0 NS1 NS2 LS0 LS1 LS2 LS3 LS4 LS5 LS6 LS7 LS8 IS0 aY ++ w_Y cI cJ cZ aY VY0 LY0 LY1 LY2 IY0) H) (hD : va_D A (w_P cI cJ cZ aP VP0 VP1 VP2 NP0 LP0 LP1 LP2 LP3 LP4 IP0 IP1 aS ++ w_S cI cJ cZ aS VS0 VS1 VS2 NS0 NS1 NS2 LS0 LS1 LS2 LS3 LS4 LS5 LS6 LS7 LS8 IS0 aY ++ w_Y cI cJ cZ aY VY0 LY0 LY1 LY2 IY0)) (hS : va_S A s.heap H locs) (ls : Array Slot) (hl : lv_has ls 10 [(0, .ref (aP 0)), (1, .long x1), (3, .int x3), (4, .long x4_39), (6, .int (nI x6_6)), (7, .int (nI x7_39)), (8, .int (nI x8_39))]) (hR : f_Plan_amountAcross_h39 VP1 x1 LS5 x3 LP1 x6_6 k_39 n x4_39 x7_39 x8_39 = r0), W p l e (headSpec u_Plan_amountAcross ({ frames := 1, cells := 0, slots := 0, locals := 22 })).room s m ([.ref (aP 0), .long x1, .int x3]).toArray below meth c H locs 0 0 (hh_Zl below (dC, dI) vwCl [(cI, .int), (cJ, .long), (cZ, .boolean)] A r0 (w_P cI cJ cZ aP VP0 VP1 VP2 NP0 LP0 LP1 LP2 LP3 LP4 IP0 IP1 aS ++ w_S cI cJ cZ aS VS0 VS1 VS2 NS0 NS1 NS2 LS0 LS1 LS2 LS3 LS4 LS5 LS6 LS7 LS8 IS0 aY ++ w_Y cI cJ cZ aY VY0 LY0 LY1 LY2 IY0) ([.ref (aP 0), .long x1, .int x3]).toArray s) (F0 m 39 ls []) := by
            intro n
            induction n with
            | zero =>
              intro x4_39 x7_39 x8_39 hi hfu H locs hP hD hS ls hl hR
              exact absurd hfu (Nat.not_lt_zero _)
            | succ n ih_39 =>
              intro x4_39 x7_39 x8_39 hi hfu H locs hP hD hS ls hl hR
              rw [f_Plan_amountAcross_h39] at hR
              obtain ⟨rec_39, hrec_39, hR⟩ : ∃ r, r = _ ∧ f_Plan_amountAcross_h39B VP1 x1 LS5 x3 LP1 x6_6 k_39 r x4_39 x7_39 x8_39 = r0 := ⟨_, rfl, hR⟩
              unfold f_Plan_amountAcross_h39B at hR
              refine lv_iload hx hb d_Plan_amountAcross_39 (lv_at hl 6 rfl) ?_
              refine lv_aload_n hx hb d_Plan_amountAcross_41 rfl (lv_at hl 0 rfl) ?_
              refine va_get (D := (dC, dI)) (ci := 0) (v := .int (nI VP1)) (C := R_Plan) (T := T_Plan) (N := 12) hx hb hG in_Plan hown hK hP 0 rfl rfl 2 (by decide) (hG _ m_133) (fun _ h9 => h9) rfl d_Plan_amountAcross_42 ?_
              refine hw_icmp_ge (tgt := 101) hx hb d_Plan_amountAcross_45 (by decide) (by omega) (by omega) (fun c45 => ?_) (fun c45 => ?_)
              · replace hR := (if_pos c45).symm.trans hR
                exact X_39 x4_39 x7_39 x8_39 (by first | assumption | omega | exact hw_upb (by assumption) (by omega)) H locs hP hD hS ls (lv_sub hl [0, 1, 2, 3, 4, 5, 6] rfl) hR
              · replace hR := (if_neg c45).symm.trans hR
                refine lv_aload_n hx hb d_Plan_amountAcross_48 rfl (lv_at hl 0 rfl) ?_
                refine va_get (D := (dC, dI)) (ci := 0) (v := .ref (aS 0)) (C := R_Plan) (T := T_Plan) (N := 12) hx hb hG in_Plan hown hK hP 0 rfl rfl 0 (by decide) (hG _ m_131) (fun _ h9 => h9) rfl d_Plan_amountAcross_49 ?_
                refine va_get (D := (dC, dI)) (ci := 2) (v := .ref (aS 8)) (C := R_Site) (T := T_Site) (N := 17) hx hb hG in_Site hown hK hP 9 rfl rfl 11 (by decide) (hG _ m_77) (fun _ h9 => h9) rfl d_Plan_amountAcross_52 ?_
                refine lv_iload hx hb d_Plan_amountAcross_55 (lv_at hl 6 rfl) ?_
                refine hw_lald (f := LS5) hx hb hK hP 17 1 rfl rfl (by decide) (by omega) d_Plan_amountAcross_57 ?_
                refine lv_lload_n hx hb d_Plan_amountAcross_58 rfl (lv_at hl 1 rfl) ?_
                refine hw_lcmp_gt (tgt := 67) hx hb d_Plan_amountAcross_59 d_Plan_amountAcross_60 (by decide) (fun c59 => ?_) (fun c59 => ?_)
                · replace hR := (if_pos c59).symm.trans hR
                  refine lv_iconst (v := nI 0) hx hb d_Plan_amountAcross_67 (by decide) ?_
                  refine lv_istore (lv' := [(9, .int (nI 0)), (0, .ref (aP 0)), (1, .long x1), (3, .int x3), (4, .long x4_39), (6, .int (nI x6_6)), (7, .int (nI x7_39)), (8, .int (nI x8_39))]) hx hb d_Plan_amountAcross_68 hl (by decide) rfl (fun ls hl => ?_)
                  refine lv_iload hx hb d_Plan_amountAcross_70 (lv_at hl 6 rfl) ?_
                  refine lv_iload_n hx hb d_Plan_amountAcross_72 rfl (lv_at hl 3 rfl) ?_
                  refine lv_icmp_ne (tgt := 95) hx hb d_Plan_amountAcross_73 (by decide) (fun c73 => ?_) (fun c73 => ?_)
                  · replace hR := (if_neg c73).symm.trans hR
                    refine lv_iinc (v := nI (x8_39 + 1)) (lv' := [(8, .int (nI (x8_39 + 1))), (9, .int (nI 0)), (0, .ref (aP 0)), (1, .long x1), (3, .int x3), (4, .long x4_39), (6, .int (nI x6_6)), (7, .int (nI x7_39))]) hx hb d_Plan_amountAcross_95 hl (k := 7) rfl (hw_inc _ 1) (by decide) rfl (fun ls hl => ?_)
                    refine lv_goto (tgt := 39) hx hb d_Plan_amountAcross_98 (by decide) ?_
                    rw [hrec_39] at hR
                    exact ih_39 x4_39 x7_39 (x8_39 + 1) (by first | assumption | omega | exact hw_upb (by assumption) (by omega)) (by omega) H locs hP hD hS ls (lv_sub hl [2, 3, 4, 5, 6, 7, 0] rfl) hR
                  · replace hR := (if_pos c73).symm.trans hR
                    refine lv_iload hx hb d_Plan_amountAcross_76 (lv_at hl 0 rfl) ?_
                    refine lv_iload_n hx hb d_Plan_amountAcross_78 rfl (lv_at hl 3 rfl) ?_
                    refine lv_icmp_eq (tgt := 95) hx hb d_Plan_amountAcross_79 (by decide) (fun c79 => ?_) (fun c79 => ?_)
                    · replace hR := (if_pos c79).symm.trans hR
                      refine lv_iinc (v := nI (x8_39 + 1)) (lv' := [(8, .int (nI (x8_39 + 1))), (9, .int (nI 0)), (0, .ref (aP 0)), (1, .long x1), (3, .int x3), (4, .long x4_39), (6, .int (nI x6_6)), (7, .int (nI x7_39))]) hx hb d_Plan_amountAcross_95 hl (k := 7) rfl (hw_inc _ 1) (by decide) rfl (fun ls hl => ?_)
                      refine lv_goto (tgt := 39) hx hb d_Plan_amountAcross_98 (by decide) ?_
                      rw [hrec_39] at hR
                      exact ih_39 x4_39 x7_39 (x8_39 + 1) (by first | assumption | omega | exact hw_upb (by assumption) (by omega)) (by omega) H locs hP hD hS ls (lv_sub hl [2, 3, 4, 5, 6, 7, 0] rfl) hR
                    · replace hR := (if_neg c79).symm.trans hR
                      refine lv_lload hx hb d_Plan_amountAcross_82 (lv_at hl 4 rfl) ?_
                      refine lv_aload_n hx hb d_Plan_amountAcross_84 rfl (lv_at hl 1 rfl) ?_
                      refine lv_iload hx hb d_Plan_amountAcross_85 (lv_at hl 5 rfl) ?_
                      refine lv_iload hx hb d_Plan_amountAcross_87 (lv_at hl 7 rfl) ?_
                      obtain ⟨y89, hy89, hR⟩ := hw_bind hR
                      have hM := c_Plan_amount l dC dI cI cJ cZ H.size aP VP0 VP1 VP2 NP0 LP0 LP1 LP2 LP3 LP4 IP0 IP1 aS VS0 VS1 VS2 NS0 NS1 NS2 LS0 LS1 LS2 LS3 LS4 LS5 LS6 LS7 LS8 IS0 aY VY0 LY0 LY1 LY2 IY0 x6_6 x8_39 (by first | assumption | omega) (by first | assumption | omega)
                      rw [hy89] at hM
                      refine hw_callVl (As := [.int (nI x6_6), .int (nI x8_39)]) (rest := [.long x4_39]) (wr := ([] : va_W)) ⟨hx, hb, hml, hown, hG⟩ hM (hw_cwV 2 hG m_317 m_297 m_298 m_5 m_299 rfl rfl (by decide +kernel) ⟨Nat.le_of_ble_eq_true rfl, Nat.le_of_ble_eq_true rfl⟩) hK hP hD hS hA [0, 1, 2, 3, 4, 5, 6, 7, 8, 9, 10, 11, 12, 13, 14, 15, 16, 17, 18, 19, 20, 21, 22, 23, 24, 25, 26, 27] [] rfl rfl (by decide) (by decide) (by decide) (hw_recv hK hP 0 rfl rfl) rfl hl.1 rfl (Nat.le_of_ble_eq_true rfl) d_Plan_amountAcross_89 ⟨Nat.le_of_ble_eq_true rfl, Nat.le_of_ble_eq_true rfl⟩ (fun H locs hP hD hS => ?_)
                      have hP : va_P (dC, dI) vwCl (w_P cI cJ cZ aP VP0 VP1 VP2 NP0 LP0 LP1 LP2 LP3 LP4 IP0 IP1 aS ++ w_S cI cJ cZ aS VS0 VS1 VS2 NS0 NS1 NS2 LS0 LS1 LS2 LS3 LS4 LS5 LS6 LS7 LS8 IS0 aY ++ w_Y cI cJ cZ aY VY0 LY0 LY1 LY2 IY0) H := hP
                      have hD : va_D A (w_P cI cJ cZ aP VP0 VP1 VP2 NP0 LP0 LP1 LP2 LP3 LP4 IP0 IP1 aS ++ w_S cI cJ cZ aS VS0 VS1 VS2 NS0 NS1 NS2 LS0 LS1 LS2 LS3 LS4 LS5 LS6 LS7 LS8 IS0 aY ++ w_Y cI cJ cZ aY VY0 LY0 LY1 LY2 IY0) := hD
                      refine lv_ladd hx hb d_Plan_amountAcross_92 ?_
                      refine lv_lstore (lv' := [(4, .long (x4_39 + y89)), (9, .int (nI 0)), (0, .ref (aP 0)), (1, .long x1), (3, .int x3), (6, .int (nI x6_6)), (7, .int (nI x7_39)), (8, .int (nI x8_39))]) hx hb d_Plan_amountAcross_93 hl (by decide) rfl (fun ls hl => ?_)
                      refine lv_iinc (v := nI (x8_39 + 1)) (lv' := [(8, .int (nI (x8_39 + 1))), (4, .long (x4_39 + y89)), (9, .int (nI 0)), (0, .ref (aP 0)), (1, .long x1), (3, .int x3), (6, .int (nI x6_6)), (7, .int (nI x7_39))]) hx hb d_Plan_amountAcross_95 hl (k := 7) rfl (hw_inc _ 1) (by decide) rfl (fun ls hl => ?_)
                      refine lv_goto (tgt := 39) hx hb d_Plan_amountAcross_98 (by decide) ?_
                      rw [hrec_39] at hR
                      exact ih_39 (x4_39 + y89) x7_39 (x8_39 + 1) (by first | assumption | omega | exact hw_upb (by assumption) (by omega)) (by omega) H locs hP hD hS ls (lv_sub hl [3, 4, 5, 1, 6, 7, 0] rfl) hR
                · replace hR := (if_neg c59).symm.trans hR
                  refine lv_iconst (v := nI 1) hx hb d_Plan_amountAcross_63 (by decide) ?_
                  refine lv_goto (tgt := 68) hx hb d_Plan_amountAcross_64 (by decide) ?_
                  refine lv_istore (lv' := [(9, .int (nI 1)), (0, .ref (aP 0)), (1, .long x1), (3, .int x3), (4, .long x4_39), (6, .int (nI x6_6)), (7, .int (nI x7_39)), (8, .int (nI x8_39))]) hx hb d_Plan_amountAcross_68 hl (by decide) rfl (fun ls hl => ?_)
                  refine lv_iload hx hb d_Plan_amountAcross_70 (lv_at hl 6 rfl) ?_
                  refine lv_iload_n hx hb d_Plan_amountAcross_72 rfl (lv_at hl 3 rfl) ?_
                  refine lv_icmp_ne (tgt := 95) hx hb d_Plan_amountAcross_73 (by decide) (fun c73 => ?_) (fun c73 => ?_)
                  · replace hR := (if_neg c73).symm.trans hR
                    refine lv_iinc (v := nI (x8_39 + 1)) (lv' := [(8, .int (nI (x8_39 + 1))), (9, .int (nI 1)), (0, .ref (aP 0)), (1, .long x1), (3, .int x3), (4, .long x4_39), (6, .int (nI x6_6)), (7, .int (nI x7_39))]) hx hb d_Plan_amountAcross_95 hl (k := 7) rfl (hw_inc _ 1) (by decide) rfl (fun ls hl => ?_)
                    refine lv_goto (tgt := 39) hx hb d_Plan_amountAcross_98 (by decide) ?_
                    rw [hrec_39] at hR
                    exact ih_39 x4_39 x7_39 (x8_39 + 1) (by first | assumption | omega | exact hw_upb (by assumption) (by omega)) (by omega) H locs hP hD hS ls (lv_sub hl [2, 3, 4, 5, 6, 7, 0] rfl) hR
                  · replace hR := (if_pos c73).symm.trans hR
                    refine lv_iload hx hb d_Plan_amountAcross_76 (lv_at hl 0 rfl) ?_
                    refine lv_iload_n hx hb d_Plan_amountAcross_78 rfl (lv_at hl 3 rfl) ?_
                    refine lv_icmp_eq (tgt := 95) hx hb d_Plan_amountAcross_79 (by decide) (fun c79 => ?_) (fun c79 => ?_)
                    · replace hR := (if_pos c79).symm.trans hR
                      refine lv_iinc (v := nI (x8_39 + 1)) (lv' := [(8, .int (nI (x8_39 + 1))), (9, .int (nI 1)), (0, .ref (aP 0)), (1, .long x1), (3, .int x3), (4, .long x4_39), (6, .int (nI x6_6)), (7, .int (nI x7_39))]) hx hb d_Plan_amountAcross_95 hl (k := 7) rfl (hw_inc _ 1) (by decide) rfl (fun ls hl => ?_)
                      refine lv_goto (tgt := 39) hx hb d_Plan_amountAcross_98 (by decide) ?_
                      rw [hrec_39] at hR
                      exact ih_39 x4_39 x7_39 (x8_39 + 1) (by first | assumption | omega | exact hw_upb (by assumption) (by omega)) (by omega) H locs hP hD hS ls (lv_sub hl [2, 3, 4, 5, 6, 7, 0] rfl) hR
                    · replace hR := (if_neg c79).symm.trans hR
                      refine lv_lload hx hb d_Plan_amountAcross_82 (lv_at hl 4 rfl) ?_
                      refine lv_aload_n hx hb d_Plan_amountAcross_84 rfl (lv_at hl 1 rfl) ?_
                      refine lv_iload hx hb d_Plan_amountAcross_85 (lv_at hl 5 rfl) ?_
                      refine lv_iload hx hb d_Plan_amountAcross_87 (lv_at hl 7 rfl) ?_
                      obtain ⟨y89, hy89, hR⟩ := hw_bind hR
                      have hM := c_Plan_amount l dC dI cI cJ cZ H.size aP VP0 VP1 VP2 NP0 LP0 LP1 LP2 LP3 LP4 IP0 IP1 aS VS0 VS1 VS2 NS0 NS1 NS2 LS0 LS1 LS2 LS3 LS4 LS5 LS6 LS7 LS8 IS0 aY VY0 LY0 LY1 LY2 IY0 x6_6 x8_39 (by first | assumption | omega) (by first | assumption | omega)
                      rw [hy89] at hM
                      refine hw_callVl (As := [.int (nI x6_6), .int (nI x8_39)]) (rest := [.long x4_39]) (wr := ([] : va_W)) ⟨hx, hb, hml, hown, hG⟩ hM (hw_cwV 2 hG m_317 m_297 m_298 m_5 m_299 rfl rfl (by decide +kernel) ⟨Nat.le_of_ble_eq_true rfl, Nat.le_of_ble_eq_true rfl⟩) hK hP hD hS hA [0, 1, 2, 3, 4, 5, 6, 7, 8, 9, 10, 11, 12, 13, 14, 15, 16, 17, 18, 19, 20, 21, 22, 23, 24, 25, 26, 27] [] rfl rfl (by decide) (by decide) (by decide) (hw_recv hK hP 0 rfl rfl) rfl hl.1 rfl (Nat.le_of_ble_eq_true rfl) d_Plan_amountAcross_89 ⟨Nat.le_of_ble_eq_true rfl, Nat.le_of_ble_eq_true rfl⟩ (fun H locs hP hD hS => ?_)
                      have hP : va_P (dC, dI) vwCl (w_P cI cJ cZ aP VP0 VP1 VP2 NP0 LP0 LP1 LP2 LP3 LP4 IP0 IP1 aS ++ w_S cI cJ cZ aS VS0 VS1 VS2 NS0 NS1 NS2 LS0 LS1 LS2 LS3 LS4 LS5 LS6 LS7 LS8 IS0 aY ++ w_Y cI cJ cZ aY VY0 LY0 LY1 LY2 IY0) H := hP
                      have hD : va_D A (w_P cI cJ cZ aP VP0 VP1 VP2 NP0 LP0 LP1 LP2 LP3 LP4 IP0 IP1 aS ++ w_S cI cJ cZ aS VS0 VS1 VS2 NS0 NS1 NS2 LS0 LS1 LS2 LS3 LS4 LS5 LS6 LS7 LS8 IS0 aY ++ w_Y cI cJ cZ aY VY0 LY0 LY1 LY2 IY0) := hD
                      refine lv_ladd hx hb d_Plan_amountAcross_92 ?_
                      refine lv_lstore (lv' := [(4, .long (x4_39 + y89)), (9, .int (nI 1)), (0, .ref (aP 0)), (1, .long x1), (3, .int x3), (6, .int (nI x6_6)), (7, .int (nI x7_39)), (8, .int (nI x8_39))]) hx hb d_Plan_amountAcross_93 hl (by decide) rfl (fun ls hl => ?_)
                      refine lv_iinc (v := nI (x8_39 + 1)) (lv' := [(8, .int (nI (x8_39 + 1))), (4, .long (x4_39 + y89)), (9, .int (nI 1)), (0, .ref (aP 0)), (1, .long x1), (3, .int x3), (6, .int (nI x6_6)), (7, .int (nI x7_39))]) hx hb d_Plan_amountAcross_95 hl (k := 7) rfl (hw_inc _ 1) (by decide) rfl (fun ls hl => ?_)
                      refine lv_goto (tgt := 39) hx hb d_Plan_amountAcross_98 (by decide) ?_
                      rw [hrec_39] at hR
                      exact ih_39 (x4_39 + y89) x7_39 (x8_39 + 1) (by first | assumption | omega | exact hw_upb (by assumption) (by omega)) (by omega) H locs hP hD hS ls (lv_sub hl [3, 4, 5, 1, 6, 7, 0] rfl) hR
          exact L_39 9 x4_6 0 0 (by first | assumption | omega | exact hw_upb (by assumption) (by omega)) (by omega) H locs hP hD hS ls (lv_sub hl [2, 3, 4, 5, 6, 1, 0] rfl) hR
        · replace hR := (if_neg c25).symm.trans hR
          refine lv_iconst (v := nI 1) hx hb d_Plan_amountAcross_29 (by decide) ?_
          refine lv_goto (tgt := 34) hx hb d_Plan_amountAcross_30 (by decide) ?_
          refine lv_istore (lv' := [(7, .int (nI 1)), (0, .ref (aP 0)), (1, .long x1), (3, .int x3), (4, .long x4_6), (6, .int (nI x6_6))]) hx hb d_Plan_amountAcross_34 hl (by decide) rfl (fun ls hl => ?_)
          refine lv_iconst (v := nI 0) hx hb d_Plan_amountAcross_36 (by decide) ?_
          refine lv_istore (lv' := [(8, .int (nI 0)), (7, .int (nI 1)), (0, .ref (aP 0)), (1, .long x1), (3, .int x3), (4, .long x4_6), (6, .int (nI x6_6))]) hx hb d_Plan_amountAcross_37 hl (by decide) rfl (fun ls hl => ?_)
          obtain ⟨k_39, hk_39, hR⟩ : ∃ k, (f_Plan_amountAcross_x39 rec_6 x6_6) = k ∧ f_Plan_amountAcross_h39 VP1 x1 LS5 x3 LP1 x6_6 k 9 x4_6 1 0 = r0 := ⟨_, rfl, hR⟩
          have X_39 : ∀ (x4_39 : Int64) (x7_39 : Nat) (x8_39 : Nat) (hi : x8_39 ≤ VP1) (H : Heap) (locs : List Loc) (hP : va_P (dC, dI) vwCl (w_P cI cJ cZ aP VP0 VP1 VP2 NP0 LP0 LP1 LP2 LP3 LP4 IP0 IP1 aS ++ w_S cI cJ cZ aS VS0 VS1 VS2 NS0 NS1 NS2 LS0 LS1 LS2 LS3 LS4 LS5 LS6 LS7 LS8 IS0 aY ++ w_Y cI cJ cZ aY VY0 LY0 LY1 LY2 IY0) H) (hD : va_D A (w_P cI cJ cZ aP VP0 VP1 VP2 NP0 LP0 LP1 LP2 LP3 LP4 IP0 IP1 aS ++ w_S cI cJ cZ aS VS0 VS1 VS2 NS0 NS1 NS2 LS0 LS1 LS2 LS3 LS4 LS5 LS6 LS7 LS8 IS0 aY ++ w_Y cI cJ cZ aY VY0 LY0 LY1 LY2 IY0)) (hS : va_S A s.heap H locs) (ls : Array Slot) (hl : lv_has ls 10 [(0, .ref (aP 0)), (1, .long x1), (3, .int x3), (4, .long x4_39), (6, .int (nI x6_6)), (7, .int (nI x7_39)), (8, .int (nI x8_39))]) (hR : k_39 x4_39 x7_39 x8_39 = r0), W p l e (headSpec u_Plan_amountAcross ({ frames := 1, cells := 0, slots := 0, locals := 22 })).room s m ([.ref (aP 0), .long x1, .int x3]).toArray below meth c H locs 0 0 (hh_Zl below (dC, dI) vwCl [(cI, .int), (cJ, .long), (cZ, .boolean)] A r0 (w_P cI cJ cZ aP VP0 VP1 VP2 NP0 LP0 LP1 LP2 LP3 LP4 IP0 IP1 aS ++ w_S cI cJ cZ aS VS0 VS1 VS2 NS0 NS1 NS2 LS0 LS1 LS2 LS3 LS4 LS5 LS6 LS7 LS8 IS0 aY ++ w_Y cI cJ cZ aY VY0 LY0 LY1 LY2 IY0) ([.ref (aP 0), .long x1, .int x3]).toArray s) (F0 m 101 ls []) := by
            intro x4_39 x7_39 x8_39 hi H locs hP hD hS ls hl hR
            rw [← hk_39] at hR
            unfold f_Plan_amountAcross_x39 at hR
            refine lv_iinc (v := nI (x6_6 + 1)) (lv' := [(6, .int (nI (x6_6 + 1))), (0, .ref (aP 0)), (1, .long x1), (3, .int x3), (4, .long x4_39), (7, .int (nI x7_39)), (8, .int (nI x8_39))]) hx hb d_Plan_amountAcross_101 hl (k := 4) rfl (hw_inc _ 1) (by decide) rfl (fun ls hl => ?_)
            refine lv_goto (tgt := 6) hx hb d_Plan_amountAcross_104 (by decide) ?_
            rw [hrec_6] at hR
            exact ih_6 x4_39 (x6_6 + 1) (by first | assumption | omega | exact hw_upb (by assumption) (by omega)) (by omega) H locs hP hD hS ls (lv_sub hl [1, 2, 3, 4, 0] rfl) hR
          have L_39 : ∀ (n : Nat) (x4_39 : Int64) (x7_39 : Nat) (x8_39 : Nat) (hi : x8_39 ≤ VP1) (hfu : VP1 - x8_39 < n) (H : Heap) (locs : List Loc) (hP : va_P (dC, dI) vwCl (w_P cI cJ cZ aP VP0 VP1 VP2 NP0 LP0 LP1 LP2 LP3 LP4 IP0 IP1 aS ++ w_S cI cJ cZ aS VS0 VS1 VS2 NS0 NS1 NS2 LS0 LS1 LS2 LS3 LS4 LS5 LS6 LS7 LS8 IS0 aY ++ w_Y cI cJ cZ aY VY0 LY0 LY1 LY2 IY0) H) (hD : va_D A (w_P cI cJ cZ aP VP0 VP1 VP2 NP0 LP0 LP1 LP2 LP3 LP4 IP0 IP1 aS ++ w_S cI cJ cZ aS VS0 VS1 VS2 NS0 NS1 NS2 LS0 LS1 LS2 LS3 LS4 LS5 LS6 LS7 LS8 IS0 aY ++ w_Y cI cJ cZ aY VY0 LY0 LY1 LY2 IY0)) (hS : va_S A s.heap H locs) (ls : Array Slot) (hl : lv_has ls 10 [(0, .ref (aP 0)), (1, .long x1), (3, .int x3), (4, .long x4_39), (6, .int (nI x6_6)), (7, .int (nI x7_39)), (8, .int (nI x8_39))]) (hR : f_Plan_amountAcross_h39 VP1 x1 LS5 x3 LP1 x6_6 k_39 n x4_39 x7_39 x8_39 = r0), W p l e (headSpec u_Plan_amountAcross ({ frames := 1, cells := 0, slots := 0, locals := 22 })).room s m ([.ref (aP 0), .long x1, .int x3]).toArray below meth c H locs 0 0 (hh_Zl below (dC, dI) vwCl [(cI, .int), (cJ, .long), (cZ, .boolean)] A r0 (w_P cI cJ cZ aP VP0 VP1 VP2 NP0 LP0 LP1 LP2 LP3 LP4 IP0 IP1 aS ++ w_S cI cJ cZ aS VS0 VS1 VS2 NS0 NS1 NS2 LS0 LS1 LS2 LS3 LS4 LS5 LS6 LS7 LS8 IS0 aY ++ w_Y cI cJ cZ aY VY0 LY0 LY1 LY2 IY0) ([.ref (aP 0), .long x1, .int x3]).toArray s) (F0 m 39 ls []) := by
            intro n
            induction n with
            | zero =>
              intro x4_39 x7_39 x8_39 hi hfu H locs hP hD hS ls hl hR
              exact absurd hfu (Nat.not_lt_zero _)
            | succ n ih_39 =>
              intro x4_39 x7_39 x8_39 hi hfu H locs hP hD hS ls hl hR
              rw [f_Plan_amountAcross_h39] at hR
              obtain ⟨rec_39, hrec_39, hR⟩ : ∃ r, r = _ ∧ f_Plan_amountAcross_h39B VP1 x1 LS5 x3 LP1 x6_6 k_39 r x4_39 x7_39 x8_39 = r0 := ⟨_, rfl, hR⟩
              unfold f_Plan_amountAcross_h39B at hR
              refine lv_iload hx hb d_Plan_amountAcross_39 (lv_at hl 6 rfl) ?_
              refine lv_aload_n hx hb d_Plan_amountAcross_41 rfl (lv_at hl 0 rfl) ?_
              refine va_get (D := (dC, dI)) (ci := 0) (v := .int (nI VP1)) (C := R_Plan) (T := T_Plan) (N := 12) hx hb hG in_Plan hown hK hP 0 rfl rfl 2 (by decide) (hG _ m_133) (fun _ h9 => h9) rfl d_Plan_amountAcross_42 ?_
              refine hw_icmp_ge (tgt := 101) hx hb d_Plan_amountAcross_45 (by decide) (by omega) (by omega) (fun c45 => ?_) (fun c45 => ?_)
              · replace hR := (if_pos c45).symm.trans hR
                exact X_39 x4_39 x7_39 x8_39 (by first | assumption | omega | exact hw_upb (by assumption) (by omega)) H locs hP hD hS ls (lv_sub hl [0, 1, 2, 3, 4, 5, 6] rfl) hR
              · replace hR := (if_neg c45).symm.trans hR
                refine lv_aload_n hx hb d_Plan_amountAcross_48 rfl (lv_at hl 0 rfl) ?_
                refine va_get (D := (dC, dI)) (ci := 0) (v := .ref (aS 0)) (C := R_Plan) (T := T_Plan) (N := 12) hx hb hG in_Plan hown hK hP 0 rfl rfl 0 (by decide) (hG _ m_131) (fun _ h9 => h9) rfl d_Plan_amountAcross_49 ?_
                refine va_get (D := (dC, dI)) (ci := 2) (v := .ref (aS 8)) (C := R_Site) (T := T_Site) (N := 17) hx hb hG in_Site hown hK hP 9 rfl rfl 11 (by decide) (hG _ m_77) (fun _ h9 => h9) rfl d_Plan_amountAcross_52 ?_
                refine lv_iload hx hb d_Plan_amountAcross_55 (lv_at hl 6 rfl) ?_
                refine hw_lald (f := LS5) hx hb hK hP 17 1 rfl rfl (by decide) (by omega) d_Plan_amountAcross_57 ?_
                refine lv_lload_n hx hb d_Plan_amountAcross_58 rfl (lv_at hl 1 rfl) ?_
                refine hw_lcmp_gt (tgt := 67) hx hb d_Plan_amountAcross_59 d_Plan_amountAcross_60 (by decide) (fun c59 => ?_) (fun c59 => ?_)
                · replace hR := (if_pos c59).symm.trans hR
                  refine lv_iconst (v := nI 0) hx hb d_Plan_amountAcross_67 (by decide) ?_
                  refine lv_istore (lv' := [(9, .int (nI 0)), (0, .ref (aP 0)), (1, .long x1), (3, .int x3), (4, .long x4_39), (6, .int (nI x6_6)), (7, .int (nI x7_39)), (8, .int (nI x8_39))]) hx hb d_Plan_amountAcross_68 hl (by decide) rfl (fun ls hl => ?_)
                  refine lv_iload hx hb d_Plan_amountAcross_70 (lv_at hl 6 rfl) ?_
                  refine lv_iload_n hx hb d_Plan_amountAcross_72 rfl (lv_at hl 3 rfl) ?_
                  refine lv_icmp_ne (tgt := 95) hx hb d_Plan_amountAcross_73 (by decide) (fun c73 => ?_) (fun c73 => ?_)
                  · replace hR := (if_neg c73).symm.trans hR
                    refine lv_iinc (v := nI (x8_39 + 1)) (lv' := [(8, .int (nI (x8_39 + 1))), (9, .int (nI 0)), (0, .ref (aP 0)), (1, .long x1), (3, .int x3), (4, .long x4_39), (6, .int (nI x6_6)), (7, .int (nI x7_39))]) hx hb d_Plan_amountAcross_95 hl (k := 7) rfl (hw_inc _ 1) (by decide) rfl (fun ls hl => ?_)
                    refine lv_goto (tgt := 39) hx hb d_Plan_amountAcross_98 (by decide) ?_
                    rw [hrec_39] at hR
                    exact ih_39 x4_39 x7_39 (x8_39 + 1) (by first | assumption | omega | exact hw_upb (by assumption) (by omega)) (by omega) H locs hP hD hS ls (lv_sub hl [2, 3, 4, 5, 6, 7, 0] rfl) hR
                  · replace hR := (if_pos c73).symm.trans hR
                    refine lv_iload hx hb d_Plan_amountAcross_76 (lv_at hl 0 rfl) ?_
                    refine lv_iload_n hx hb d_Plan_amountAcross_78 rfl (lv_at hl 3 rfl) ?_
                    refine lv_icmp_eq (tgt := 95) hx hb d_Plan_amountAcross_79 (by decide) (fun c79 => ?_) (fun c79 => ?_)
                    · replace hR := (if_pos c79).symm.trans hR
                      refine lv_iinc (v := nI (x8_39 + 1)) (lv' := [(8, .int (nI (x8_39 + 1))), (9, .int (nI 0)), (0, .ref (aP 0)), (1, .long x1), (3, .int x3), (4, .long x4_39), (6, .int (nI x6_6)), (7, .int (nI x7_39))]) hx hb d_Plan_amountAcross_95 hl (k := 7) rfl (hw_inc _ 1) (by decide) rfl (fun ls hl => ?_)
                      refine lv_goto (tgt := 39) hx hb d_Plan_amountAcross_98 (by decide) ?_
                      rw [hrec_39] at hR
                      exact ih_39 x4_39 x7_39 (x8_39 + 1) (by first | assumption | omega | exact hw_upb (by assumption) (by omega)) (by omega) H locs hP hD hS ls (lv_sub hl [2, 3, 4, 5, 6, 7, 0] rfl) hR
                    · replace hR := (if_neg c79).symm.trans hR
                      refine lv_lload hx hb d_Plan_amountAcross_82 (lv_at hl 4 rfl) ?_
                      refine lv_aload_n hx hb d_Plan_amountAcross_84 rfl (lv_at hl 1 rfl) ?_
                      refine lv_iload hx hb d_Plan_amountAcross_85 (lv_at hl 5 rfl) ?_
                      refine lv_iload hx hb d_Plan_amountAcross_87 (lv_at hl 7 rfl) ?_
                      obtain ⟨y89, hy89, hR⟩ := hw_bind hR
                      have hM := c_Plan_amount l dC dI cI cJ cZ H.size aP VP0 VP1 VP2 NP0 LP0 LP1 LP2 LP3 LP4 IP0 IP1 aS VS0 VS1 VS2 NS0 NS1 NS2 LS0 LS1 LS2 LS3 LS4 LS5 LS6 LS7 LS8 IS0 aY VY0 LY0 LY1 LY2 IY0 x6_6 x8_39 (by first | assumption | omega) (by first | assumption | omega)
                      rw [hy89] at hM
                      refine hw_callVl (As := [.int (nI x6_6), .int (nI x8_39)]) (rest := [.long x4_39]) (wr := ([] : va_W)) ⟨hx, hb, hml, hown, hG⟩ hM (hw_cwV 2 hG m_317 m_297 m_298 m_5 m_299 rfl rfl (by decide +kernel) ⟨Nat.le_of_ble_eq_true rfl, Nat.le_of_ble_eq_true rfl⟩) hK hP hD hS hA [0, 1, 2, 3, 4, 5, 6, 7, 8, 9, 10, 11, 12, 13, 14, 15, 16, 17, 18, 19, 20, 21, 22, 23, 24, 25, 26, 27] [] rfl rfl (by decide) (by decide) (by decide) (hw_recv hK hP 0 rfl rfl) rfl hl.1 rfl (Nat.le_of_ble_eq_true rfl) d_Plan_amountAcross_89 ⟨Nat.le_of_ble_eq_true rfl, Nat.le_of_ble_eq_true rfl⟩ (fun H locs hP hD hS => ?_)
                      have hP : va_P (dC, dI) vwCl (w_P cI cJ cZ aP VP0 VP1 VP2 NP0 LP0 LP1 LP2 LP3 LP4 IP0 IP1 aS ++ w_S cI cJ cZ aS VS0 VS1 VS2 NS0 NS1 NS2 LS0 LS1 LS2 LS3 LS4 LS5 LS6 LS7 LS8 IS0 aY ++ w_Y cI cJ cZ aY VY0 LY0 LY1 LY2 IY0) H := hP
                      have hD : va_D A (w_P cI cJ cZ aP VP0 VP1 VP2 NP0 LP0 LP1 LP2 LP3 LP4 IP0 IP1 aS ++ w_S cI cJ cZ aS VS0 VS1 VS2 NS0 NS1 NS2 LS0 LS1 LS2 LS3 LS4 LS5 LS6 LS7 LS8 IS0 aY ++ w_Y cI cJ cZ aY VY0 LY0 LY1 LY2 IY0) := hD
                      refine lv_ladd hx hb d_Plan_amountAcross_92 ?_
                      refine lv_lstore (lv' := [(4, .long (x4_39 + y89)), (9, .int (nI 0)), (0, .ref (aP 0)), (1, .long x1), (3, .int x3), (6, .int (nI x6_6)), (7, .int (nI x7_39)), (8, .int (nI x8_39))]) hx hb d_Plan_amountAcross_93 hl (by decide) rfl (fun ls hl => ?_)
                      refine lv_iinc (v := nI (x8_39 + 1)) (lv' := [(8, .int (nI (x8_39 + 1))), (4, .long (x4_39 + y89)), (9, .int (nI 0)), (0, .ref (aP 0)), (1, .long x1), (3, .int x3), (6, .int (nI x6_6)), (7, .int (nI x7_39))]) hx hb d_Plan_amountAcross_95 hl (k := 7) rfl (hw_inc _ 1) (by decide) rfl (fun ls hl => ?_)
                      refine lv_goto (tgt := 39) hx hb d_Plan_amountAcross_98 (by decide) ?_
                      rw [hrec_39] at hR
                      exact ih_39 (x4_39 + y89) x7_39 (x8_39 + 1) (by first | assumption | omega | exact hw_upb (by assumption) (by omega)) (by omega) H locs hP hD hS ls (lv_sub hl [3, 4, 5, 1, 6, 7, 0] rfl) hR
                · replace hR := (if_neg c59).symm.trans hR
                  refine lv_iconst (v := nI 1) hx hb d_Plan_amountAcross_63 (by decide) ?_
                  refine lv_goto (tgt := 68) hx hb d_Plan_amountAcross_64 (by decide) ?_
                  refine lv_istore (lv' := [(9, .int (nI 1)), (0, .ref (aP 0)), (1, .long x1), (3, .int x3), (4, .long x4_39), (6, .int (nI x6_6)), (7, .int (nI x7_39)), (8, .int (nI x8_39))]) hx hb d_Plan_amountAcross_68 hl (by decide) rfl (fun ls hl => ?_)
                  refine lv_iload hx hb d_Plan_amountAcross_70 (lv_at hl 6 rfl) ?_
                  refine lv_iload_n hx hb d_Plan_amountAcross_72 rfl (lv_at hl 3 rfl) ?_
                  refine lv_icmp_ne (tgt := 95) hx hb d_Plan_amountAcross_73 (by decide) (fun c73 => ?_) (fun c73 => ?_)
                  · replace hR := (if_neg c73).symm.trans hR
                    refine lv_iinc (v := nI (x8_39 + 1)) (lv' := [(8, .int (nI (x8_39 + 1))), (9, .int (nI 1)), (0, .ref (aP 0)), (1, .long x1), (3, .int x3), (4, .long x4_39), (6, .int (nI x6_6)), (7, .int (nI x7_39))]) hx hb d_Plan_amountAcross_95 hl (k := 7) rfl (hw_inc _ 1) (by decide) rfl (fun ls hl => ?_)
                    refine lv_goto (tgt := 39) hx hb d_Plan_amountAcross_98 (by decide) ?_
                    rw [hrec_39] at hR
                    exact ih_39 x4_39 x7_39 (x8_39 + 1) (by first | assumption | omega | exact hw_upb (by assumption) (by omega)) (by omega) H locs hP hD hS ls (lv_sub hl [2, 3, 4, 5, 6, 7, 0] rfl) hR
                  · replace hR := (if_pos c73).symm.trans hR
                    refine lv_iload hx hb d_Plan_amountAcross_76 (lv_at hl 0 rfl) ?_
                    refine lv_iload_n hx hb d_Plan_amountAcross_78 rfl (lv_at hl 3 rfl) ?_
                    refine lv_icmp_eq (tgt := 95) hx hb d_Plan_amountAcross_79 (by decide) (fun c79 => ?_) (fun c79 => ?_)
                    · replace hR := (if_pos c79).symm.trans hR
                      refine lv_iinc (v := nI (x8_39 + 1)) (lv' := [(8, .int (nI (x8_39 + 1))), (9, .int (nI 1)), (0, .ref (aP 0)), (1, .long x1), (3, .int x3), (4, .long x4_39), (6, .int (nI x6_6)), (7, .int (nI x7_39))]) hx hb d_Plan_amountAcross_95 hl (k := 7) rfl (hw_inc _ 1) (by decide) rfl (fun ls hl => ?_)
                      refine lv_goto (tgt := 39) hx hb d_Plan_amountAcross_98 (by decide) ?_
                      rw [hrec_39] at hR
                      exact ih_39 x4_39 x7_39 (x8_39 + 1) (by first | assumption | omega | exact hw_upb (by assumption) (by omega)) (by omega) H locs hP hD hS ls (lv_sub hl [2, 3, 4, 5, 6, 7, 0] rfl) hR
                    · replace hR := (if_neg c79).symm.trans hR
                      refine lv_lload hx hb d_Plan_amountAcross_82 (lv_at hl 4 rfl) ?_
                      refine lv_aload_n hx hb d_Plan_amountAcross_84 rfl (lv_at hl 1 rfl) ?_
                      refine lv_iload hx hb d_Plan_amountAcross_85 (lv_at hl 5 rfl) ?_
                      refine lv_iload hx hb d_Plan_amountAcross_87 (lv_at hl 7 rfl) ?_
                      obtain ⟨y89, hy89, hR⟩ := hw_bind hR
                      have hM := c_Plan_amount l dC dI cI cJ cZ H.size aP VP0 VP1 VP2 NP0 LP0 LP1 LP2 LP3 LP4 IP0 IP1 aS VS0 VS1 VS2 NS0 NS1 NS2 LS0 LS1 LS2 LS3 LS4 LS5 LS6 LS7 LS8 IS0 aY VY0 LY0 LY1 LY2 IY0 x6_6 x8_39 (by first | assumption | omega) (by first | assumption | omega)
                      rw [hy89] at hM
                      refine hw_callVl (As := [.int (nI x6_6), .int (nI x8_39)]) (rest := [.long x4_39]) (wr := ([] : va_W)) ⟨hx, hb, hml, hown, hG⟩ hM (hw_cwV 2 hG m_317 m_297 m_298 m_5 m_299 rfl rfl (by decide +kernel) ⟨Nat.le_of_ble_eq_true rfl, Nat.le_of_ble_eq_true rfl⟩) hK hP hD hS hA [0, 1, 2, 3, 4, 5, 6, 7, 8, 9, 10, 11, 12, 13, 14, 15, 16, 17, 18, 19, 20, 21, 22, 23, 24, 25, 26, 27] [] rfl rfl (by decide) (by decide) (by decide) (hw_recv hK hP 0 rfl rfl) rfl hl.1 rfl (Nat.le_of_ble_eq_true rfl) d_Plan_amountAcross_89 ⟨Nat.le_of_ble_eq_true rfl, Nat.le_of_ble_eq_true rfl⟩ (fun H locs hP hD hS => ?_)
                      have hP : va_P (dC, dI) vwCl (w_P cI cJ cZ aP VP0 VP1 VP2 NP0 LP0 LP1 LP2 LP3 LP4 IP0 IP1 aS ++ w_S cI cJ cZ aS VS0 VS1 VS2 NS0 NS1 NS2 LS0 LS1 LS2 LS3 LS4 LS5 LS6 LS7 LS8 IS0 aY ++ w_Y cI cJ cZ aY VY0 LY0 LY1 LY2 IY0) H := hP
                      have hD : va_D A (w_P cI cJ cZ aP VP0 VP1 VP2 NP0 LP0 LP1 LP2 LP3 LP4 IP0 IP1 aS ++ w_S cI cJ cZ aS VS0 VS1 VS2 NS0 NS1 NS2 LS0 LS1 LS2 LS3 LS4 LS5 LS6 LS7 LS8 IS0 aY ++ w_Y cI cJ cZ aY VY0 LY0 LY1 LY2 IY0) := hD
                      refine lv_ladd hx hb d_Plan_amountAcross_92 ?_
                      refine lv_lstore (lv' := [(4, .long (x4_39 + y89)), (9, .int (nI 1)), (0, .ref (aP 0)), (1, .long x1), (3, .int x3), (6, .int (nI x6_6)), (7, .int (nI x7_39)), (8, .int (nI x8_39))]) hx hb d_Plan_amountAcross_93 hl (by decide) rfl (fun ls hl => ?_)
                      refine lv_iinc (v := nI (x8_39 + 1)) (lv' := [(8, .int (nI (x8_39 + 1))), (4, .long (x4_39 + y89)), (9, .int (nI 1)), (0, .ref (aP 0)), (1, .long x1), (3, .int x3), (6, .int (nI x6_6)), (7, .int (nI x7_39))]) hx hb d_Plan_amountAcross_95 hl (k := 7) rfl (hw_inc _ 1) (by decide) rfl (fun ls hl => ?_)
                      refine lv_goto (tgt := 39) hx hb d_Plan_amountAcross_98 (by decide) ?_
                      rw [hrec_39] at hR
                      exact ih_39 (x4_39 + y89) x7_39 (x8_39 + 1) (by first | assumption | omega | exact hw_upb (by assumption) (by omega)) (by omega) H locs hP hD hS ls (lv_sub hl [3, 4, 5, 1, 6, 7, 0] rfl) hR
          exact L_39 9 x4_6 1 0 (by first | assumption | omega | exact hw_upb (by assumption) (by omega)) (by omega) H locs hP hD hS ls (lv_sub hl [2, 3, 4, 5, 6, 1, 0] rfl) hR
  exact L_6 13 0 0 (by first | assumption | omega | exact hw_upb (by assumption) (by omega)) (by omega) H locs hP hD hS ls (lv_sub hl [2, 3, 4, 1, 0] rfl) hR
def f_Plan_isFree (LP0 : Nat → Int64) (LP2 : Nat → Int64) (LP3 : Nat → Int64) (x1 : Nat) (x2 : Nat) : Int32 :=
  if (LP0 ((x1 * 9) + x2)) = (-1) then (nI 0) else (if ((LP0 ((x1 * 9) + x2)) + (LP2 x1)) = (LP3 x2) then (nI 1) else (nI 0))
set_option maxHeartbeats 4000000 in
set_option maxRecDepth 100000 in
theorem c_Plan_isFree (l : Launch) (dC : Nat → ClassId) (dI : Nat → Nat → Nat) (cI cJ cZ : ClassId) (sz : Nat) (aP : Nat → Nat) (VP0 : Nat) (VP1 : Nat) (VP2 : Nat) (NP0 : Nat → Nat) (LP0 : Nat → Int64) (LP1 : Nat → Int64) (LP2 : Nat → Int64) (LP3 : Nat → Int64) (LP4 : Nat → Int64) (IP0 : Nat → Int32) (IP1 : Nat → Int32) (aS : Nat → Nat) (VS0 : Nat) (VS1 : Nat) (VS2 : Nat) (NS0 : Nat → Nat) (NS1 : Nat → Nat) (NS2 : Nat → Nat) (LS0 : Nat → Int64) (LS1 : Nat → Int64) (LS2 : Nat → Int64) (LS3 : Nat → Int64) (LS4 : Nat → Int64) (LS5 : Nat → Int64) (LS6 : Nat → Int64) (LS7 : Nat → Int64) (LS8 : Nat → Int64) (IS0 : Nat → Int32) (aY : Nat → Nat) (VY0 : Nat) (LY0 : Nat → Int64) (LY1 : Nat → Int64) (LY2 : Nat → Int64) (IY0 : Nat → Int32) (x1 : Nat) (x2 : Nat) (hx1 : x1 < 12) (hx2 : x2 < 9) : hh_Ci l y_Plan_isFree u_Plan_isFree ({ frames := 0, cells := 0, slots := 0, locals := 0 }) (dC, dI) vwCl [(cI, .int), (cJ, .long), (cZ, .boolean)] (w_P cI cJ cZ aP VP0 VP1 VP2 NP0 LP0 LP1 LP2 LP3 LP4 IP0 IP1 aS ++ w_S cI cJ cZ aS VS0 VS1 VS2 NS0 NS1 NS2 LS0 LS1 LS2 LS3 LS4 LS5 LS6 LS7 LS8 IS0 aY ++ w_Y cI cJ cZ aY VY0 LY0 LY1 LY2 IY0) sz [.ref (aP 0), .int (nI x1), .int (nI x2)] (f_Plan_isFree LP0 LP2 LP3 x1 x2) (w_P cI cJ cZ aP VP0 VP1 VP2 NP0 LP0 LP1 LP2 LP3 LP4 IP0 IP1 aS ++ w_S cI cJ cZ aS VS0 VS1 VS2 NS0 NS1 NS2 LS0 LS1 LS2 LS3 LS4 LS5 LS6 LS7 LS8 IS0 aY ++ w_Y cI cJ cZ aY VY0 LY0 LY1 LY2 IY0) 0 0 := by
  unfold hh_Ci
  refine Met.ofW (cc := b_Plan_isFree) (maxL := 5) (ret := (some .boolean)) (by decide) rfl ?_
  intro p e s m args below meth c s₁ B hml hv
  obtain ⟨rfl, hsz, hP, hK, hD0⟩ := hv
  have hx := B.exec
  have hb := B.bytes
  have hr := B.returns
  have hts := atoms_spec (ws := u_Plan_isFree) B.pre
  have hG : ∀ w ∈ wG, w.before ([.ref (aP 0), .int (nI x1), .int (nI x2)]).toArray s = true := fun w h => hts w (List.mem_cons_of_mem _ h)
  have hown : s.vm.findClass R_Plan = some m.cls := findClass_of_methodNamed B.named
  have hlocks := B.notSynchronized
  subst hsz
  have hD := hD0.self (sz := s.heap.size)
  generalize hAe : va_A (w_P cI cJ cZ aP VP0 VP1 VP2 NP0 LP0 LP1 LP2 LP3 LP4 IP0 IP1 aS ++ w_S cI cJ cZ aS VS0 VS1 VS2 NS0 NS1 NS2 LS0 LS1 LS2 LS3 LS4 LS5 LS6 LS7 LS8 IS0 aY ++ w_Y cI cJ cZ aY VY0 LY0 LY1 LY2 IY0) s.heap.size = A at hD ⊢
  have hA : ∀ q : Nat, s.heap.size ≤ q → A q := fun q h => by rw [← hAe]; exact Or.inr h
  have hS : va_S A s.heap s.heap [] := va_S.rf
  have hl := lv_entry ([.ref (aP 0), .int (nI x1), .int (nI x2)]) (n := 5) (Nat.le_of_ble_eq_true rfl)
  rw [lg_entry_eq]
  generalize (lg_sl ([.ref (aP 0), .int (nI x1), .int (nI x2)]) ++ List.replicate (5 - (lg_sl ([.ref (aP 0), .int (nI x1), .int (nI x2)])).length) Slot.unset).toArray = ls at hl ⊢
  have hl : lv_has ls 5 [(0, .ref (aP 0)), (1, .int (nI x1)), (2, .int (nI x2))] := hl
  generalize hR : f_Plan_isFree LP0 LP2 LP3 x1 x2 = r0
  obtain ⟨H, locs, hHe, hle⟩ : ∃ (H : Heap) (locs : List Loc), s.heap = H ∧ [] = locs := ⟨_, _, rfl, rfl⟩
  have hP : va_P (dC, dI) vwCl (w_P cI cJ cZ aP VP0 VP1 VP2 NP0 LP0 LP1 LP2 LP3 LP4 IP0 IP1 aS ++ w_S cI cJ cZ aS VS0 VS1 VS2 NS0 NS1 NS2 LS0 LS1 LS2 LS3 LS4 LS5 LS6 LS7 LS8 IS0 aY ++ w_Y cI cJ cZ aY VY0 LY0 LY1 LY2 IY0) H := by rw [← hHe]; exact hP
  have hS : va_S A s.heap H locs := by rw [← hHe, ← hle]; exact hS
  refine hw_start hHe hle ?_
  unfold f_Plan_isFree at hR
  refine lv_aload_n hx hb d_Plan_isFree_0 rfl (lv_at hl 0 rfl) ?_
  refine va_get (D := (dC, dI)) (ci := 0) (v := .ref (aP 1)) (C := R_Plan) (T := T_Plan) (N := 12) hx hb hG in_Plan hown hK hP 0 rfl rfl 3 (by decide) (hG _ m_134) (fun _ h9 => h9) rfl d_Plan_isFree_1 ?_
  refine lv_iload_n hx hb d_Plan_isFree_4 rfl (lv_at hl 1 rfl) ?_
  refine lv_bipush (v := nI 9) hx hb d_Plan_isFree_5 (by decide) ?_
  refine hw_imul hx hb d_Plan_isFree_7 ?_
  refine lv_iload_n hx hb d_Plan_isFree_8 rfl (lv_at hl 2 rfl) ?_
  refine hw_iadd hx hb d_Plan_isFree_9 ?_
  refine hw_lald (f := LP0) hx hb hK hP 1 1 rfl rfl (by decide) (by omega) d_Plan_isFree_10 ?_
  refine lv_lstore_n (lv' := [(3, .long (LP0 ((x1 * 9) + x2))), (0, .ref (aP 0)), (1, .int (nI x1)), (2, .int (nI x2))]) hx hb d_Plan_isFree_11 rfl hl (by decide) rfl (fun ls hl => ?_)
  refine lv_lload_n hx hb d_Plan_isFree_12 rfl (lv_at hl 0 rfl) ?_
  refine lv_ldc2 (v := (-1)) hx hb hown (hG _ m_330) d_Plan_isFree_13 ?_
  refine hw_lcmp_eq (tgt := 42) hx hb d_Plan_isFree_16 d_Plan_isFree_17 (by decide) (fun c16 => ?_) (fun c16 => ?_)
  · replace hR := (if_pos c16).symm.trans hR
    refine lv_iconst (v := nI 0) hx hb d_Plan_isFree_42 (by decide) ?_
    subst hR
    exact W.zret (v := nI 0) hx hb hr (by decide) (fun t ht hW => ⟨⟨_, (), rfl, rfl, by rw [ht]; exact hP, va_K.moved hW.alike hK, hD⟩, hS.F ht⟩) hS.2.2 d_Plan_isFree_43
  · replace hR := (if_neg c16).symm.trans hR
    refine lv_lload_n hx hb d_Plan_isFree_20 rfl (lv_at hl 0 rfl) ?_
    refine lv_aload_n hx hb d_Plan_isFree_21 rfl (lv_at hl 1 rfl) ?_
    refine va_get (D := (dC, dI)) (ci := 0) (v := .ref (aP 3)) (C := R_Plan) (T := T_Plan) (N := 12) hx hb hG in_Plan hown hK hP 0 rfl rfl 5 (by decide) (hG _ m_136) (fun _ h9 => h9) rfl d_Plan_isFree_22 ?_
    refine lv_iload_n hx hb d_Plan_isFree_25 rfl (lv_at hl 2 rfl) ?_
    refine hw_lald (f := LP2) hx hb hK hP 3 1 rfl rfl (by decide) (by omega) d_Plan_isFree_26 ?_
    refine lv_ladd hx hb d_Plan_isFree_27 ?_
    refine lv_aload_n hx hb d_Plan_isFree_28 rfl (lv_at hl 1 rfl) ?_
    refine va_get (D := (dC, dI)) (ci := 0) (v := .ref (aP 4)) (C := R_Plan) (T := T_Plan) (N := 12) hx hb hG in_Plan hown hK hP 0 rfl rfl 6 (by decide) (hG _ m_137) (fun _ h9 => h9) rfl d_Plan_isFree_29 ?_
    refine lv_iload_n hx hb d_Plan_isFree_32 rfl (lv_at hl 3 rfl) ?_
    refine hw_lald (f := LP3) hx hb hK hP 4 1 rfl rfl (by decide) (by omega) d_Plan_isFree_33 ?_
    refine hw_lcmp_ne (tgt := 42) hx hb d_Plan_isFree_34 d_Plan_isFree_35 (by decide) (fun c34 => ?_) (fun c34 => ?_)
    · replace hR := (if_neg c34).symm.trans hR
      refine lv_iconst (v := nI 0) hx hb d_Plan_isFree_42 (by decide) ?_
      subst hR
      exact W.zret (v := nI 0) hx hb hr (by decide) (fun t ht hW => ⟨⟨_, (), rfl, rfl, by rw [ht]; exact hP, va_K.moved hW.alike hK, hD⟩, hS.F ht⟩) hS.2.2 d_Plan_isFree_43
    · replace hR := (if_pos c34).symm.trans hR
      refine lv_iconst (v := nI 1) hx hb d_Plan_isFree_38 (by decide) ?_
      refine lv_goto (tgt := 43) hx hb d_Plan_isFree_39 (by decide) ?_
      subst hR
      exact W.zret (v := nI 1) hx hb hr (by decide) (fun t ht hW => ⟨⟨_, (), rfl, rfl, by rw [ht]; exact hP, va_K.moved hW.alike hK, hD⟩, hS.F ht⟩) hS.2.2 d_Plan_isFree_43
def f_Plan_reach (LP4 : Nat → Int64) (IP0 : Nat → Int32) (IP1 : Nat → Int32) (x1 : Nat) (x2 : Nat) (x3 : Int64) : (Nat → Int64) × (Nat → Int32) :=
  if (IP0 x1) = 0 then (if (LP4 x1) ≤ (((LP4 x2) + (x3 * 32)) + 1) then (LP4, IP1) else (vp_updL LP4 x1 (((LP4 x2) + (x3 * 32)) + 1), upd IP1 x1 (nI x2))) else (LP4, IP1)
set_option maxHeartbeats 4000000 in
set_option maxRecDepth 100000 in
theorem c_Plan_reach (l : Launch) (dC : Nat → ClassId) (dI : Nat → Nat → Nat) (cI cJ cZ : ClassId) (sz : Nat) (aP : Nat → Nat) (VP0 : Nat) (VP1 : Nat) (VP2 : Nat) (NP0 : Nat → Nat) (LP0 : Nat → Int64) (LP1 : Nat → Int64) (LP2 : Nat → Int64) (LP3 : Nat → Int64) (LP4 : Nat → Int64) (IP0 : Nat → Int32) (IP1 : Nat → Int32) (aS : Nat → Nat) (VS0 : Nat) (VS1 : Nat) (VS2 : Nat) (NS0 : Nat → Nat) (NS1 : Nat → Nat) (NS2 : Nat → Nat) (LS0 : Nat → Int64) (LS1 : Nat → Int64) (LS2 : Nat → Int64) (LS3 : Nat → Int64) (LS4 : Nat → Int64) (LS5 : Nat → Int64) (LS6 : Nat → Int64) (LS7 : Nat → Int64) (LS8 : Nat → Int64) (IS0 : Nat → Int32) (aY : Nat → Nat) (VY0 : Nat) (LY0 : Nat → Int64) (LY1 : Nat → Int64) (LY2 : Nat → Int64) (IY0 : Nat → Int32) (x1 : Nat) (x2 : Nat) (x3 : Int64) (hx1 : x1 < 21) (hx2 : x2 < 21) : hh_Cv l y_Plan_reach u_Plan_reach ({ frames := 0, cells := 0, slots := 0, locals := 0 }) (dC, dI) vwCl [(cI, .int), (cJ, .long), (cZ, .boolean)] (w_P cI cJ cZ aP VP0 VP1 VP2 NP0 LP0 LP1 LP2 LP3 LP4 IP0 IP1 aS ++ w_S cI cJ cZ aS VS0 VS1 VS2 NS0 NS1 NS2 LS0 LS1 LS2 LS3 LS4 LS5 LS6 LS7 LS8 IS0 aY ++ w_Y cI cJ cZ aY VY0 LY0 LY1 LY2 IY0) sz [.ref (aP 0), .int (nI x1), .int (nI x2), .long x3] (w_P cI cJ cZ aP VP0 VP1 VP2 NP0 LP0 LP1 LP2 LP3 ((f_Plan_reach LP4 IP0 IP1 x1 x2 x3).1) IP0 ((f_Plan_reach LP4 IP0 IP1 x1 x2 x3).2) aS ++ w_S cI cJ cZ aS VS0 VS1 VS2 NS0 NS1 NS2 LS0 LS1 LS2 LS3 LS4 LS5 LS6 LS7 LS8 IS0 aY ++ w_Y cI cJ cZ aY VY0 LY0 LY1 LY2 IY0) 0 0 := by
  unfold hh_Cv
  refine Met.ofW (cc := b_Plan_reach) (maxL := 7) (ret := none) (by decide) rfl ?_
  intro p e s m args below meth c s₁ B hml hv
  obtain ⟨rfl, hsz, hP, hK, hD0⟩ := hv
  have hx := B.exec
  have hb := B.bytes
  have hr := B.returns
  have hts := atoms_spec (ws := u_Plan_reach) B.pre
  have hG : ∀ w ∈ wG, w.before ([.ref (aP 0), .int (nI x1), .int (nI x2), .long x3]).toArray s = true := fun w h => hts w (List.mem_cons_of_mem _ h)
  have hown : s.vm.findClass R_Plan = some m.cls := findClass_of_methodNamed B.named
  have hlocks := B.notSynchronized
  subst hsz
  have hD := hD0.self (sz := s.heap.size)
  generalize hAe : va_A (w_P cI cJ cZ aP VP0 VP1 VP2 NP0 LP0 LP1 LP2 LP3 LP4 IP0 IP1 aS ++ w_S cI cJ cZ aS VS0 VS1 VS2 NS0 NS1 NS2 LS0 LS1 LS2 LS3 LS4 LS5 LS6 LS7 LS8 IS0 aY ++ w_Y cI cJ cZ aY VY0 LY0 LY1 LY2 IY0) s.heap.size = A at hD ⊢
  have hA : ∀ q : Nat, s.heap.size ≤ q → A q := fun q h => by rw [← hAe]; exact Or.inr h
  have hS : va_S A s.heap s.heap [] := va_S.rf
  have hl := lv_entry ([.ref (aP 0), .int (nI x1), .int (nI x2), .long x3]) (n := 7) (Nat.le_of_ble_eq_true rfl)
  rw [lg_entry_eq]
  generalize (lg_sl ([.ref (aP 0), .int (nI x1), .int (nI x2), .long x3]) ++ List.replicate (7 - (lg_sl ([.ref (aP 0), .int (nI x1), .int (nI x2), .long x3])).length) Slot.unset).toArray = ls at hl ⊢
  have hl : lv_has ls 7 [(0, .ref (aP 0)), (1, .int (nI x1)), (2, .int (nI x2)), (3, .long x3)] := hl
  generalize hR : f_Plan_reach LP4 IP0 IP1 x1 x2 x3 = r0
  obtain ⟨H, locs, hHe, hle⟩ : ∃ (H : Heap) (locs : List Loc), s.heap = H ∧ [] = locs := ⟨_, _, rfl, rfl⟩
  have hP : va_P (dC, dI) vwCl (w_P cI cJ cZ aP VP0 VP1 VP2 NP0 LP0 LP1 LP2 LP3 LP4 IP0 IP1 aS ++ w_S cI cJ cZ aS VS0 VS1 VS2 NS0 NS1 NS2 LS0 LS1 LS2 LS3 LS4 LS5 LS6 LS7 LS8 IS0 aY ++ w_Y cI cJ cZ aY VY0 LY0 LY1 LY2 IY0) H := by rw [← hHe]; exact hP
  have hS : va_S A s.heap H locs := by rw [← hHe, ← hle]; exact hS
  refine hw_start hHe hle ?_
  unfold f_Plan_reach at hR
  refine lv_aload_n hx hb d_Plan_reach_0 rfl (lv_at hl 0 rfl) ?_
  refine va_get (D := (dC, dI)) (ci := 0) (v := .ref (aP 5)) (C := R_Plan) (T := T_Plan) (N := 12) hx hb hG in_Plan hown hK hP 0 rfl rfl 7 (by decide) (hG _ m_138) (fun _ h9 => h9) rfl d_Plan_reach_1 ?_
  refine lv_iload_n hx hb d_Plan_reach_4 rfl (lv_at hl 2 rfl) ?_
  refine hw_lald (f := LP4) hx hb hK hP 5 1 rfl rfl (by decide) (by omega) d_Plan_reach_5 ?_
  refine lv_lload_n hx hb d_Plan_reach_6 rfl (lv_at hl 3 rfl) ?_
  refine lv_ldc2 (v := 32) hx hb hown (hG _ m_348) d_Plan_reach_7 ?_
  refine lv_lmul hx hb d_Plan_reach_10 ?_
  refine lv_ladd hx hb d_Plan_reach_11 ?_
  refine lv_lconst (v := 1) hx hb d_Plan_reach_12 (by decide) ?_
  refine lv_ladd hx hb d_Plan_reach_13 ?_
  refine lv_lstore (lv' := [(5, .long (((LP4 x2) + (x3 * 32)) + 1)), (0, .ref (aP 0)), (1, .int (nI x1)), (2, .int (nI x2)), (3, .long x3)]) hx hb d_Plan_reach_14 hl (by decide) rfl (fun ls hl => ?_)
  refine lv_aload_n hx hb d_Plan_reach_16 rfl (lv_at hl 1 rfl) ?_
  refine va_get (D := (dC, dI)) (ci := 0) (v := .ref (aP 6)) (C := R_Plan) (T := T_Plan) (N := 12) hx hb hG in_Plan hown hK hP 0 rfl rfl 8 (by decide) (hG _ m_139) (fun _ h9 => h9) rfl d_Plan_reach_17 ?_
  refine lv_iload_n hx hb d_Plan_reach_20 rfl (lv_at hl 2 rfl) ?_
  refine hw_zald (f := IP0) hx hb hK hP 6 2 rfl rfl (by decide) (by omega) d_Plan_reach_21 ?_
  refine lv_if_ne (tgt := 52) hx hb d_Plan_reach_22 (by decide) (fun c22 => ?_) (fun c22 => ?_)
  · replace hR := (if_neg c22).symm.trans hR
    subst hR
    exact W.vret hx hb hr (fun t ht hW => ⟨⟨(), rfl, trivial, by rw [ht]; exact hP, va_K.moved hW.alike hK, hD⟩, hS.F ht⟩) hS.2.2 d_Plan_reach_52
  · replace hR := (if_pos c22).symm.trans hR
    refine lv_lload hx hb d_Plan_reach_25 (lv_at hl 0 rfl) ?_
    refine lv_aload_n hx hb d_Plan_reach_27 rfl (lv_at hl 1 rfl) ?_
    refine va_get (D := (dC, dI)) (ci := 0) (v := .ref (aP 5)) (C := R_Plan) (T := T_Plan) (N := 12) hx hb hG in_Plan hown hK hP 0 rfl rfl 7 (by decide) (hG _ m_138) (fun _ h9 => h9) rfl d_Plan_reach_28 ?_
    refine lv_iload_n hx hb d_Plan_reach_31 rfl (lv_at hl 2 rfl) ?_
    refine hw_lald (f := LP4) hx hb hK hP 5 1 rfl rfl (by decide) (by omega) d_Plan_reach_32 ?_
    refine hw_lcmp_ge (tgt := 52) hx hb d_Plan_reach_33 d_Plan_reach_34 (by decide) (fun c33 => ?_) (fun c33 => ?_)
    · replace hR := (if_pos c33).symm.trans hR
      subst hR
      exact W.vret hx hb hr (fun t ht hW => ⟨⟨(), rfl, trivial, by rw [ht]; exact hP, va_K.moved hW.alike hK, hD⟩, hS.F ht⟩) hS.2.2 d_Plan_reach_52
    · replace hR := (if_neg c33).symm.trans hR
      refine lv_aload_n hx hb d_Plan_reach_37 rfl (lv_at hl 1 rfl) ?_
      refine va_get (D := (dC, dI)) (ci := 0) (v := .ref (aP 5)) (C := R_Plan) (T := T_Plan) (N := 12) hx hb hG in_Plan hown hK hP 0 rfl rfl 7 (by decide) (hG _ m_138) (fun _ h9 => h9) rfl d_Plan_reach_38 ?_
      refine lv_iload_n hx hb d_Plan_reach_41 rfl (lv_at hl 2 rfl) ?_
      refine lv_lload hx hb d_Plan_reach_42 (lv_at hl 0 rfl) ?_
      refine hw_last (f := LP4) hx hb hK hP hD hS 5 1 rfl rfl (by decide) (by omega) d_Plan_reach_44 (fun H locs hP hD hS => ?_)
      have hP : va_P (dC, dI) vwCl (w_P cI cJ cZ aP VP0 VP1 VP2 NP0 LP0 LP1 LP2 LP3 (vp_updL LP4 x1 (((LP4 x2) + (x3 * 32)) + 1)) IP0 IP1 aS ++ w_S cI cJ cZ aS VS0 VS1 VS2 NS0 NS1 NS2 LS0 LS1 LS2 LS3 LS4 LS5 LS6 LS7 LS8 IS0 aY ++ w_Y cI cJ cZ aY VY0 LY0 LY1 LY2 IY0) H := hP
      have hD : va_D A (w_P cI cJ cZ aP VP0 VP1 VP2 NP0 LP0 LP1 LP2 LP3 (vp_updL LP4 x1 (((LP4 x2) + (x3 * 32)) + 1)) IP0 IP1 aS ++ w_S cI cJ cZ aS VS0 VS1 VS2 NS0 NS1 NS2 LS0 LS1 LS2 LS3 LS4 LS5 LS6 LS7 LS8 IS0 aY ++ w_Y cI cJ cZ aY VY0 LY0 LY1 LY2 IY0) := hD
      refine lv_aload_n hx hb d_Plan_reach_45 rfl (lv_at hl 1 rfl) ?_
      refine va_get (D := (dC, dI)) (ci := 0) (v := .ref (aP 7)) (C := R_Plan) (T := T_Plan) (N := 12) hx hb hG in_Plan hown hK hP 0 rfl rfl 9 (by decide) (hG _ m_140) (fun _ h9 => h9) rfl d_Plan_reach_46 ?_
      refine lv_iload_n hx hb d_Plan_reach_49 rfl (lv_at hl 2 rfl) ?_
      refine lv_iload_n hx hb d_Plan_reach_50 rfl (lv_at hl 3 rfl) ?_
      refine hw_iast (f := IP1) hx hb hK hP hD hS 7 0 rfl rfl (by decide) (by omega) d_Plan_reach_51 (fun H locs hP hD hS => ?_)
      have hP : va_P (dC, dI) vwCl (w_P cI cJ cZ aP VP0 VP1 VP2 NP0 LP0 LP1 LP2 LP3 (vp_updL LP4 x1 (((LP4 x2) + (x3 * 32)) + 1)) IP0 (upd IP1 x1 (nI x2)) aS ++ w_S cI cJ cZ aS VS0 VS1 VS2 NS0 NS1 NS2 LS0 LS1 LS2 LS3 LS4 LS5 LS6 LS7 LS8 IS0 aY ++ w_Y cI cJ cZ aY VY0 LY0 LY1 LY2 IY0) H := hP
      have hD : va_D A (w_P cI cJ cZ aP VP0 VP1 VP2 NP0 LP0 LP1 LP2 LP3 (vp_updL LP4 x1 (((LP4 x2) + (x3 * 32)) + 1)) IP0 (upd IP1 x1 (nI x2)) aS ++ w_S cI cJ cZ aS VS0 VS1 VS2 NS0 NS1 NS2 LS0 LS1 LS2 LS3 LS4 LS5 LS6 LS7 LS8 IS0 aY ++ w_Y cI cJ cZ aY VY0 LY0 LY1 LY2 IY0) := hD
      subst hR
      exact W.vret hx hb hr (fun t ht hW => ⟨⟨(), rfl, trivial, by rw [ht]; exact hP, va_K.moved hW.alike hK, hD⟩, hS.F ht⟩) hS.2.2 d_Plan_reach_52
def f_Plan_reachFills_h2B (VP1 : Nat) (LP1 : Nat → Int64) (x1 : Nat) (IP0 : Nat → Int32) (k_2 : (Nat) → (Nat → Int64) → (Nat → Int32) → (Nat → Int64) × (Nat → Int32)) (rec_2 : (Nat) → (Nat → Int64) → (Nat → Int32) → (Nat → Int64) × (Nat → Int32)) (x2_2 : Nat) (LP4_2 : Nat → Int64) (IP1_2 : Nat → Int32) : (Nat → Int64) × (Nat → Int32) :=
  if VP1 ≤ x2_2 then (k_2 x2_2 LP4_2 IP1_2) else (if (LP1 ((x1 * 9) + x2_2)) ≤ 0 then (rec_2 (x2_2 + 1) LP4_2 IP1_2) else (hh_bind (f_Plan_reach LP4_2 IP0 IP1_2 (12 + x2_2) x1 0) (fun y33 => rec_2 (x2_2 + 1) y33.1 y33.2)))
def f_Plan_reachFills_h2 (VP1 : Nat) (LP1 : Nat → Int64) (x1 : Nat) (IP0 : Nat → Int32) (k_2 : (Nat) → (Nat → Int64) → (Nat → Int32) → (Nat → Int64) × (Nat → Int32)) : Nat → (Nat) → (Nat → Int64) → (Nat → Int32) → (Nat → Int64) × (Nat → Int32)
  | 0, x2_2, LP4_2, IP1_2 => k_2 x2_2 LP4_2 IP1_2
  | n + 1, x2_2, LP4_2, IP1_2 => f_Plan_reachFills_h2B VP1 LP1 x1 IP0 k_2 (fun x2_2 LP4_2 IP1_2 => f_Plan_reachFills_h2 VP1 LP1 x1 IP0 k_2 n x2_2 LP4_2 IP1_2) x2_2 LP4_2 IP1_2
def f_Plan_reachFills_x2  (x2_2 : Nat) (LP4_2 : Nat → Int64) (IP1_2 : Nat → Int32) : (Nat → Int64) × (Nat → Int32) :=
  (LP4_2, IP1_2)
def f_Plan_reachFills (VP1 : Nat) (LP1 : Nat → Int64) (LP4 : Nat → Int64) (IP0 : Nat → Int32) (IP1 : Nat → Int32) (x1 : Nat) : (Nat → Int64) × (Nat → Int32) :=
  f_Plan_reachFills_h2 VP1 LP1 x1 IP0 f_Plan_reachFills_x2 9 0 LP4 IP1
set_option maxHeartbeats 4000000 in
set_option maxRecDepth 100000 in
theorem c_Plan_reachFills (l : Launch) (dC : Nat → ClassId) (dI : Nat → Nat → Nat) (cI cJ cZ : ClassId) (sz : Nat) (aP : Nat → Nat) (VP0 : Nat) (VP1 : Nat) (VP2 : Nat) (NP0 : Nat → Nat) (LP0 : Nat → Int64) (LP1 : Nat → Int64) (LP2 : Nat → Int64) (LP3 : Nat → Int64) (LP4 : Nat → Int64) (IP0 : Nat → Int32) (IP1 : Nat → Int32) (aS : Nat → Nat) (VS0 : Nat) (VS1 : Nat) (VS2 : Nat) (NS0 : Nat → Nat) (NS1 : Nat → Nat) (NS2 : Nat → Nat) (LS0 : Nat → Int64) (LS1 : Nat → Int64) (LS2 : Nat → Int64) (LS3 : Nat → Int64) (LS4 : Nat → Int64) (LS5 : Nat → Int64) (LS6 : Nat → Int64) (LS7 : Nat → Int64) (LS8 : Nat → Int64) (IS0 : Nat → Int32) (aY : Nat → Nat) (VY0 : Nat) (LY0 : Nat → Int64) (LY1 : Nat → Int64) (LY2 : Nat → Int64) (IY0 : Nat → Int32) (x1 : Nat) (hb8 : VP1 ≤ 8) (hx1 : x1 < 12) : hh_Cv l y_Plan_reachFills u_Plan_reachFills ({ frames := 1, cells := 0, slots := 0, locals := 26 }) (dC, dI) vwCl [(cI, .int), (cJ, .long), (cZ, .boolean)] (w_P cI cJ cZ aP VP0 VP1 VP2 NP0 LP0 LP1 LP2 LP3 LP4 IP0 IP1 aS ++ w_S cI cJ cZ aS VS0 VS1 VS2 NS0 NS1 NS2 LS0 LS1 LS2 LS3 LS4 LS5 LS6 LS7 LS8 IS0 aY ++ w_Y cI cJ cZ aY VY0 LY0 LY1 LY2 IY0) sz [.ref (aP 0), .int (nI x1)] (w_P cI cJ cZ aP VP0 VP1 VP2 NP0 LP0 LP1 LP2 LP3 ((f_Plan_reachFills VP1 LP1 LP4 IP0 IP1 x1).1) IP0 ((f_Plan_reachFills VP1 LP1 LP4 IP0 IP1 x1).2) aS ++ w_S cI cJ cZ aS VS0 VS1 VS2 NS0 NS1 NS2 LS0 LS1 LS2 LS3 LS4 LS5 LS6 LS7 LS8 IS0 aY ++ w_Y cI cJ cZ aY VY0 LY0 LY1 LY2 IY0) 0 0 := by
  unfold hh_Cv
  refine Met.ofW (cc := b_Plan_reachFills) (maxL := 3) (ret := none) (by decide) rfl ?_
  intro p e s m args below meth c s₁ B hml hv
  obtain ⟨rfl, hsz, hP, hK, hD0⟩ := hv
  have hx := B.exec
  have hb := B.bytes
  have hr := B.returns
  have hts := atoms_spec (ws := u_Plan_reachFills) B.pre
  have hG : ∀ w ∈ wG, w.before ([.ref (aP 0), .int (nI x1)]).toArray s = true := fun w h => hts w (List.mem_cons_of_mem _ h)
  have hown : s.vm.findClass R_Plan = some m.cls := findClass_of_methodNamed B.named
  have hlocks := B.notSynchronized
  subst hsz
  have hD := hD0.self (sz := s.heap.size)
  generalize hAe : va_A (w_P cI cJ cZ aP VP0 VP1 VP2 NP0 LP0 LP1 LP2 LP3 LP4 IP0 IP1 aS ++ w_S cI cJ cZ aS VS0 VS1 VS2 NS0 NS1 NS2 LS0 LS1 LS2 LS3 LS4 LS5 LS6 LS7 LS8 IS0 aY ++ w_Y cI cJ cZ aY VY0 LY0 LY1 LY2 IY0) s.heap.size = A at hD ⊢
  have hA : ∀ q : Nat, s.heap.size ≤ q → A q := fun q h => by rw [← hAe]; exact Or.inr h
  have hS : va_S A s.heap s.heap [] := va_S.rf
  have hl := lv_entry ([.ref (aP 0), .int (nI x1)]) (n := 3) (Nat.le_of_ble_eq_true rfl)
  rw [lg_entry_eq]
  generalize (lg_sl ([.ref (aP 0), .int (nI x1)]) ++ List.replicate (3 - (lg_sl ([.ref (aP 0), .int (nI x1)])).length) Slot.unset).toArray = ls at hl ⊢
  have hl : lv_has ls 3 [(0, .ref (aP 0)), (1, .int (nI x1))] := hl
  generalize hR : f_Plan_reachFills VP1 LP1 LP4 IP0 IP1 x1 = r0
  obtain ⟨H, locs, hHe, hle⟩ : ∃ (H : Heap) (locs : List Loc), s.heap = H ∧ [] = locs := ⟨_, _, rfl, rfl⟩
  have hP : va_P (dC, dI) vwCl (w_P cI cJ cZ aP VP0 VP1 VP2 NP0 LP0 LP1 LP2 LP3 LP4 IP0 IP1 aS ++ w_S cI cJ cZ aS VS0 VS1 VS2 NS0 NS1 NS2 LS0 LS1 LS2 LS3 LS4 LS5 LS6 LS7 LS8 IS0 aY ++ w_Y cI cJ cZ aY VY0 LY0 LY1 LY2 IY0) H := by rw [← hHe]; exact hP
  have hS : va_S A s.heap H locs := by rw [← hHe, ← hle]; exact hS
  refine hw_start hHe hle ?_
  unfold f_Plan_reachFills at hR
  refine lv_iconst (v := nI 0) hx hb d_Plan_reachFills_0 (by decide) ?_
  refine lv_istore_n (lv' := [(2, .int (nI 0)), (0, .ref (aP 0)), (1, .int (nI x1))]) hx hb d_Plan_reachFills_1 rfl hl (by decide) rfl (fun ls hl => ?_)
  obtain ⟨k_2, hk_2, hR⟩ : ∃ k, f_Plan_reachFills_x2 = k ∧ f_Plan_reachFills_h2 VP1 LP1 x1 IP0 k 9 0 LP4 IP1 = r0 := ⟨_, rfl, hR⟩
  have X_2 : ∀ (x2_2 : Nat) (LP4_2 : Nat → Int64) (IP1_2 : Nat → Int32) (hi : x2_2 ≤ VP1) (H : Heap) (locs : List Loc) (hP : va_P (dC, dI) vwCl (w_P cI cJ cZ aP VP0 VP1 VP2 NP0 LP0 LP1 LP2 LP3 LP4_2 IP0 IP1_2 aS ++ w_S cI cJ cZ aS VS0 VS1 VS2 NS0 NS1 NS2 LS0 LS1 LS2 LS3 LS4 LS5 LS6 LS7 LS8 IS0 aY ++ w_Y cI cJ cZ aY VY0 LY0 LY1 LY2 IY0) H) (hD : va_D A (w_P cI cJ cZ aP VP0 VP1 VP2 NP0 LP0 LP1 LP2 LP3 LP4_2 IP0 IP1_2 aS ++ w_S cI cJ cZ aS VS0 VS1 VS2 NS0 NS1 NS2 LS0 LS1 LS2 LS3 LS4 LS5 LS6 LS7 LS8 IS0 aY ++ w_Y cI cJ cZ aY VY0 LY0 LY1 LY2 IY0)) (hS : va_S A s.heap H locs) (ls : Array Slot) (hl : lv_has ls 3 [(0, .ref (aP 0)), (1, .int (nI x1)), (2, .int (nI x2_2))]) (hR : k_2 x2_2 LP4_2 IP1_2 = r0), W p l e (headSpec u_Plan_reachFills ({ frames := 1, cells := 0, slots := 0, locals := 26 })).room s m ([.ref (aP 0), .int (nI x1)]).toArray below meth c H locs 0 0 (hh_Zv below (dC, dI) vwCl [(cI, .int), (cJ, .long), (cZ, .boolean)] A (w_P cI cJ cZ aP VP0 VP1 VP2 NP0 LP0 LP1 LP2 LP3 r0.1 IP0 r0.2 aS ++ w_S cI cJ cZ aS VS0 VS1 VS2 NS0 NS1 NS2 LS0 LS1 LS2 LS3 LS4 LS5 LS6 LS7 LS8 IS0 aY ++ w_Y cI cJ cZ aY VY0 LY0 LY1 LY2 IY0) ([.ref (aP 0), .int (nI x1)]).toArray s) (F0 m 42 ls []) := by
    intro x2_2 LP4_2 IP1_2 hi H locs hP hD hS ls hl hR
    rw [← hk_2] at hR
    unfold f_Plan_reachFills_x2 at hR
    subst hR
    exact W.vret hx hb hr (fun t ht hW => ⟨⟨(), rfl, trivial, by rw [ht]; exact hP, va_K.moved hW.alike hK, hD⟩, hS.F ht⟩) hS.2.2 d_Plan_reachFills_42
  have L_2 : ∀ (n : Nat) (x2_2 : Nat) (LP4_2 : Nat → Int64) (IP1_2 : Nat → Int32) (hi : x2_2 ≤ VP1) (hfu : VP1 - x2_2 < n) (H : Heap) (locs : List Loc) (hP : va_P (dC, dI) vwCl (w_P cI cJ cZ aP VP0 VP1 VP2 NP0 LP0 LP1 LP2 LP3 LP4_2 IP0 IP1_2 aS ++ w_S cI cJ cZ aS VS0 VS1 VS2 NS0 NS1 NS2 LS0 LS1 LS2 LS3 LS4 LS5 LS6 LS7 LS8 IS0 aY ++ w_Y cI cJ cZ aY VY0 LY0 LY1 LY2 IY0) H) (hD : va_D A (w_P cI cJ cZ aP VP0 VP1 VP2 NP0 LP0 LP1 LP2 LP3 LP4_2 IP0 IP1_2 aS ++ w_S cI cJ cZ aS VS0 VS1 VS2 NS0 NS1 NS2 LS0 LS1 LS2 LS3 LS4 LS5 LS6 LS7 LS8 IS0 aY ++ w_Y cI cJ cZ aY VY0 LY0 LY1 LY2 IY0)) (hS : va_S A s.heap H locs) (ls : Array Slot) (hl : lv_has ls 3 [(0, .ref (aP 0)), (1, .int (nI x1)), (2, .int (nI x2_2))]) (hR : f_Plan_reachFills_h2 VP1 LP1 x1 IP0 k_2 n x2_2 LP4_2 IP1_2 = r0), W p l e (headSpec u_Plan_reachFills ({ frames := 1, cells := 0, slots := 0, locals := 26 })).room s m ([.ref (aP 0), .int (nI x1)]).toArray below meth c H locs 0 0 (hh_Zv below (dC, dI) vwCl [(cI, .int), (cJ, .long), (cZ, .boolean)] A (w_P cI cJ cZ aP VP0 VP1 VP2 NP0 LP0 LP1 LP2 LP3 r0.1 IP0 r0.2 aS ++ w_S cI cJ cZ aS VS0 VS1 VS2 NS0 NS1 NS2 LS0 LS1 LS2 LS3 LS4 LS5 LS6 LS7 LS8 IS0 aY ++ w_Y cI cJ cZ aY VY0 LY0 LY1 LY2 IY0) ([.ref (aP 0), .int (nI x1)]).toArray s) (F0 m 2 ls []) := by
    intro n
    induction n with
    | zero =>
      intro x2_2 LP4_2 IP1_2 hi hfu H locs hP hD hS ls hl hR
      exact absurd hfu (Nat.not_lt_zero _)
    | succ n ih_2 =>
      intro x2_2 LP4_2 IP1_2 hi hfu H locs hP hD hS ls hl hR
      rw [f_Plan_reachFills_h2] at hR
      obtain ⟨rec_2, hrec_2, hR⟩ : ∃ r, r = _ ∧ f_Plan_reachFills_h2B VP1 LP1 x1 IP0 k_2 r x2_2 LP4_2 IP1_2 = r0 := ⟨_, rfl, hR⟩
      unfold f_Plan_reachFills_h2B at hR
      refine lv_iload_n hx hb d_Plan_reachFills_2 rfl (lv_at hl 2 rfl) ?_
      refine lv_aload_n hx hb d_Plan_reachFills_3 rfl (lv_at hl 0 rfl) ?_
      refine va_get (D := (dC, dI)) (ci := 0) (v := .int (nI VP1)) (C := R_Plan) (T := T_Plan) (N := 12) hx hb hG in_Plan hown hK hP 0 rfl rfl 2 (by decide) (hG _ m_133) (fun _ h9 => h9) rfl d_Plan_reachFills_4 ?_
      refine hw_icmp_ge (tgt := 42) hx hb d_Plan_reachFills_7 (by decide) (by omega) (by omega) (fun c7 => ?_) (fun c7 => ?_)
      · replace hR := (if_pos c7).symm.trans hR
        exact X_2 x2_2 LP4_2 IP1_2 (by first | assumption | omega | exact hw_upb (by assumption) (by omega)) H locs hP hD hS ls (lv_sub hl [0, 1, 2] rfl) hR
      · replace hR := (if_neg c7).symm.trans hR
        refine lv_aload_n hx hb d_Plan_reachFills_10 rfl (lv_at hl 0 rfl) ?_
        refine va_get (D := (dC, dI)) (ci := 0) (v := .ref (aP 2)) (C := R_Plan) (T := T_Plan) (N := 12) hx hb hG in_Plan hown hK hP 0 rfl rfl 4 (by decide) (hG _ m_135) (fun _ h9 => h9) rfl d_Plan_reachFills_11 ?_
        refine lv_iload_n hx hb d_Plan_reachFills_14 rfl (lv_at hl 1 rfl) ?_
        refine lv_bipush (v := nI 9) hx hb d_Plan_reachFills_15 (by decide) ?_
        refine hw_imul hx hb d_Plan_reachFills_17 ?_
        refine lv_iload_n hx hb d_Plan_reachFills_18 rfl (lv_at hl 2 rfl) ?_
        refine hw_iadd hx hb d_Plan_reachFills_19 ?_
        refine hw_lald (f := LP1) hx hb hK hP 2 1 rfl rfl (by decide) (by omega) d_Plan_reachFills_20 ?_
        refine lv_lconst (v := 0) hx hb d_Plan_reachFills_21 (by decide) ?_
        refine hw_lcmp_le (tgt := 36) hx hb d_Plan_reachFills_22 d_Plan_reachFills_23 (by decide) (fun c22 => ?_) (fun c22 => ?_)
        · replace hR := (if_pos c22).symm.trans hR
          refine lv_iinc (v := nI (x2_2 + 1)) (lv' := [(2, .int (nI (x2_2 + 1))), (0, .ref (aP 0)), (1, .int (nI x1))]) hx hb d_Plan_reachFills_36 hl (k := 2) rfl (hw_inc _ 1) (by decide) rfl (fun ls hl => ?_)
          refine lv_goto (tgt := 2) hx hb d_Plan_reachFills_39 (by decide) ?_
          rw [hrec_2] at hR
          exact ih_2 (x2_2 + 1) LP4_2 IP1_2 (by first | assumption | omega | exact hw_upb (by assumption) (by omega)) (by omega) H locs hP hD hS ls (lv_sub hl [1, 2, 0] rfl) hR
        · replace hR := (if_neg c22).symm.trans hR
          refine lv_aload_n hx hb d_Plan_reachFills_26 rfl (lv_at hl 0 rfl) ?_
          refine lv_bipush (v := nI 12) hx hb d_Plan_reachFills_27 (by decide) ?_
          refine lv_iload_n hx hb d_Plan_reachFills_29 rfl (lv_at hl 2 rfl) ?_
          refine hw_iadd hx hb d_Plan_reachFills_30 ?_
          refine lv_iload_n hx hb d_Plan_reachFills_31 rfl (lv_at hl 1 rfl) ?_
          refine lv_lconst (v := 0) hx hb d_Plan_reachFills_32 (by decide) ?_
          obtain ⟨y33, hy33, hR⟩ := hw_bind hR
          have hM := c_Plan_reach l dC dI cI cJ cZ H.size aP VP0 VP1 VP2 NP0 LP0 LP1 LP2 LP3 LP4_2 IP0 IP1_2 aS VS0 VS1 VS2 NS0 NS1 NS2 LS0 LS1 LS2 LS3 LS4 LS5 LS6 LS7 LS8 IS0 aY VY0 LY0 LY1 LY2 IY0 (12 + x2_2) x1 0 (by first | assumption | omega) (by first | assumption | omega)
          rw [hy33] at hM
          refine hw_callVv (As := [.int (nI (12 + x2_2)), .int (nI x1), .long 0]) (rest := []) (wr := ([] : va_W)) ⟨hx, hb, hml, hown, hG⟩ hM (hw_cwV 3 hG m_344 m_346 mp_3 m_5 m_347 rfl rfl (by decide +kernel) ⟨Nat.le_of_ble_eq_true rfl, Nat.le_of_ble_eq_true rfl⟩) hK hP hD hS hA [0, 1, 2, 3, 4, 5, 6, 7, 8, 9, 10, 11, 12, 13, 14, 15, 16, 17, 18, 19, 20, 21, 22, 23, 24, 25, 26, 27] [] rfl rfl (by decide) (by decide) (by decide) (hw_recv hK hP 0 rfl rfl) rfl hl.1 rfl (Nat.le_of_ble_eq_true rfl) d_Plan_reachFills_33 ⟨Nat.le_of_ble_eq_true rfl, Nat.le_of_ble_eq_true rfl⟩ (fun H locs hP hD hS => ?_)
          have hP : va_P (dC, dI) vwCl (w_P cI cJ cZ aP VP0 VP1 VP2 NP0 LP0 LP1 LP2 LP3 y33.1 IP0 y33.2 aS ++ w_S cI cJ cZ aS VS0 VS1 VS2 NS0 NS1 NS2 LS0 LS1 LS2 LS3 LS4 LS5 LS6 LS7 LS8 IS0 aY ++ w_Y cI cJ cZ aY VY0 LY0 LY1 LY2 IY0) H := hP
          have hD : va_D A (w_P cI cJ cZ aP VP0 VP1 VP2 NP0 LP0 LP1 LP2 LP3 y33.1 IP0 y33.2 aS ++ w_S cI cJ cZ aS VS0 VS1 VS2 NS0 NS1 NS2 LS0 LS1 LS2 LS3 LS4 LS5 LS6 LS7 LS8 IS0 aY ++ w_Y cI cJ cZ aY VY0 LY0 LY1 LY2 IY0) := hD
          refine lv_iinc (v := nI (x2_2 + 1)) (lv' := [(2, .int (nI (x2_2 + 1))), (0, .ref (aP 0)), (1, .int (nI x1))]) hx hb d_Plan_reachFills_36 hl (k := 2) rfl (hw_inc _ 1) (by decide) rfl (fun ls hl => ?_)
          refine lv_goto (tgt := 2) hx hb d_Plan_reachFills_39 (by decide) ?_
          rw [hrec_2] at hR
          exact ih_2 (x2_2 + 1) y33.1 y33.2 (by first | assumption | omega | exact hw_upb (by assumption) (by omega)) (by omega) H locs hP hD hS ls (lv_sub hl [1, 2, 0] rfl) hR
  exact L_2 9 0 LP4 IP1 (by first | assumption | omega | exact hw_upb (by assumption) (by omega)) (by omega) H locs hP hD hS ls (lv_sub hl [1, 2, 0] rfl) hR
def f_Plan_reachSources_h2B (VP0 : Nat) (LP0 : Nat → Int64) (x1 : Nat) (IP0 : Nat → Int32) (LP2 : Nat → Int64) (LP3 : Nat → Int64) (k_2 : (Nat) → (Nat → Int64) → (Nat → Int32) → (Nat → Int64) × (Nat → Int32)) (rec_2 : (Nat) → (Nat → Int64) → (Nat → Int32) → (Nat → Int64) × (Nat → Int32)) (x2_2 : Nat) (LP4_2 : Nat → Int64) (IP1_2 : Nat → Int32) : (Nat → Int64) × (Nat → Int32) :=
  if VP0 ≤ x2_2 then (k_2 x2_2 LP4_2 IP1_2) else (if (LP0 ((x2_2 * 9) + x1)) = (-1) then (rec_2 (x2_2 + 1) LP4_2 IP1_2) else (hh_bind (f_Plan_reach LP4_2 IP0 IP1_2 x2_2 (12 + x1) (((LP0 ((x2_2 * 9) + x1)) + (LP2 x2_2)) - (LP3 x1))) (fun y51 => rec_2 (x2_2 + 1) y51.1 y51.2)))
def f_Plan_reachSources_h2 (VP0 : Nat) (LP0 : Nat → Int64) (x1 : Nat) (IP0 : Nat → Int32) (LP2 : Nat → Int64) (LP3 : Nat → Int64) (k_2 : (Nat) → (Nat → Int64) → (Nat → Int32) → (Nat → Int64) × (Nat → Int32)) : Nat → (Nat) → (Nat → Int64) → (Nat → Int32) → (Nat → Int64) × (Nat → Int32)
  | 0, x2_2, LP4_2, IP1_2 => k_2 x2_2 LP4_2 IP1_2
  | n + 1, x2_2, LP4_2, IP1_2 => f_Plan_reachSources_h2B VP0 LP0 x1 IP0 LP2 LP3 k_2 (fun x2_2 LP4_2 IP1_2 => f_Plan_reachSources_h2 VP0 LP0 x1 IP0 LP2 LP3 k_2 n x2_2 LP4_2 IP1_2) x2_2 LP4_2 IP1_2
def f_Plan_reachSources_x2  (x2_2 : Nat) (LP4_2 : Nat → Int64) (IP1_2 : Nat → Int32) : (Nat → Int64) × (Nat → Int32) :=
  (LP4_2, IP1_2)
def f_Plan_reachSources (VP0 : Nat) (LP0 : Nat → Int64) (LP2 : Nat → Int64) (LP3 : Nat → Int64) (LP4 : Nat → Int64) (IP0 : Nat → Int32) (IP1 : Nat → Int32) (x1 : Nat) : (Nat → Int64) × (Nat → Int32) :=
  f_Plan_reachSources_h2 VP0 LP0 x1 IP0 LP2 LP3 f_Plan_reachSources_x2 13 0 LP4 IP1
set_option maxHeartbeats 4000000 in
set_option maxRecDepth 100000 in
theorem c_Plan_reachSources (l : Launch) (dC : Nat → ClassId) (dI : Nat → Nat → Nat) (cI cJ cZ : ClassId) (sz : Nat) (aP : Nat → Nat) (VP0 : Nat) (VP1 : Nat) (VP2 : Nat) (NP0 : Nat → Nat) (LP0 : Nat → Int64) (LP1 : Nat → Int64) (LP2 : Nat → Int64) (LP3 : Nat → Int64) (LP4 : Nat → Int64) (IP0 : Nat → Int32) (IP1 : Nat → Int32) (aS : Nat → Nat) (VS0 : Nat) (VS1 : Nat) (VS2 : Nat) (NS0 : Nat → Nat) (NS1 : Nat → Nat) (NS2 : Nat → Nat) (LS0 : Nat → Int64) (LS1 : Nat → Int64) (LS2 : Nat → Int64) (LS3 : Nat → Int64) (LS4 : Nat → Int64) (LS5 : Nat → Int64) (LS6 : Nat → Int64) (LS7 : Nat → Int64) (LS8 : Nat → Int64) (IS0 : Nat → Int32) (aY : Nat → Nat) (VY0 : Nat) (LY0 : Nat → Int64) (LY1 : Nat → Int64) (LY2 : Nat → Int64) (IY0 : Nat → Int32) (x1 : Nat) (hs12 : VP0 ≤ 12) (hx1 : x1 < 9) : hh_Cv l y_Plan_reachSources u_Plan_reachSources ({ frames := 1, cells := 0, slots := 0, locals := 26 }) (dC, dI) vwCl [(cI, .int), (cJ, .long), (cZ, .boolean)] (w_P cI cJ cZ aP VP0 VP1 VP2 NP0 LP0 LP1 LP2 LP3 LP4 IP0 IP1 aS ++ w_S cI cJ cZ aS VS0 VS1 VS2 NS0 NS1 NS2 LS0 LS1 LS2 LS3 LS4 LS5 LS6 LS7 LS8 IS0 aY ++ w_Y cI cJ cZ aY VY0 LY0 LY1 LY2 IY0) sz [.ref (aP 0), .int (nI x1)] (w_P cI cJ cZ aP VP0 VP1 VP2 NP0 LP0 LP1 LP2 LP3 ((f_Plan_reachSources VP0 LP0 LP2 LP3 LP4 IP0 IP1 x1).1) IP0 ((f_Plan_reachSources VP0 LP0 LP2 LP3 LP4 IP0 IP1 x1).2) aS ++ w_S cI cJ cZ aS VS0 VS1 VS2 NS0 NS1 NS2 LS0 LS1 LS2 LS3 LS4 LS5 LS6 LS7 LS8 IS0 aY ++ w_Y cI cJ cZ aY VY0 LY0 LY1 LY2 IY0) 0 0 := by
  unfold hh_Cv
  refine Met.ofW (cc := b_Plan_reachSources) (maxL := 5) (ret := none) (by decide) rfl ?_
  intro p e s m args below meth c s₁ B hml hv
  obtain ⟨rfl, hsz, hP, hK, hD0⟩ := hv
  have hx := B.exec
  have hb := B.bytes
  have hr := B.returns
  have hts := atoms_spec (ws := u_Plan_reachSources) B.pre
  have hG : ∀ w ∈ wG, w.before ([.ref (aP 0), .int (nI x1)]).toArray s = true := fun w h => hts w (List.mem_cons_of_mem _ h)
  have hown : s.vm.findClass R_Plan = some m.cls := findClass_of_methodNamed B.named
  have hlocks := B.notSynchronized
  subst hsz
  have hD := hD0.self (sz := s.heap.size)
  generalize hAe : va_A (w_P cI cJ cZ aP VP0 VP1 VP2 NP0 LP0 LP1 LP2 LP3 LP4 IP0 IP1 aS ++ w_S cI cJ cZ aS VS0 VS1 VS2 NS0 NS1 NS2 LS0 LS1 LS2 LS3 LS4 LS5 LS6 LS7 LS8 IS0 aY ++ w_Y cI cJ cZ aY VY0 LY0 LY1 LY2 IY0) s.heap.size = A at hD ⊢
  have hA : ∀ q : Nat, s.heap.size ≤ q → A q := fun q h => by rw [← hAe]; exact Or.inr h
  have hS : va_S A s.heap s.heap [] := va_S.rf
  have hl := lv_entry ([.ref (aP 0), .int (nI x1)]) (n := 5) (Nat.le_of_ble_eq_true rfl)
  rw [lg_entry_eq]
  generalize (lg_sl ([.ref (aP 0), .int (nI x1)]) ++ List.replicate (5 - (lg_sl ([.ref (aP 0), .int (nI x1)])).length) Slot.unset).toArray = ls at hl ⊢
  have hl : lv_has ls 5 [(0, .ref (aP 0)), (1, .int (nI x1))] := hl
  generalize hR : f_Plan_reachSources VP0 LP0 LP2 LP3 LP4 IP0 IP1 x1 = r0
  obtain ⟨H, locs, hHe, hle⟩ : ∃ (H : Heap) (locs : List Loc), s.heap = H ∧ [] = locs := ⟨_, _, rfl, rfl⟩
  have hP : va_P (dC, dI) vwCl (w_P cI cJ cZ aP VP0 VP1 VP2 NP0 LP0 LP1 LP2 LP3 LP4 IP0 IP1 aS ++ w_S cI cJ cZ aS VS0 VS1 VS2 NS0 NS1 NS2 LS0 LS1 LS2 LS3 LS4 LS5 LS6 LS7 LS8 IS0 aY ++ w_Y cI cJ cZ aY VY0 LY0 LY1 LY2 IY0) H := by rw [← hHe]; exact hP
  have hS : va_S A s.heap H locs := by rw [← hHe, ← hle]; exact hS
  refine hw_start hHe hle ?_
  unfold f_Plan_reachSources at hR
  refine lv_iconst (v := nI 0) hx hb d_Plan_reachSources_0 (by decide) ?_
  refine lv_istore_n (lv' := [(2, .int (nI 0)), (0, .ref (aP 0)), (1, .int (nI x1))]) hx hb d_Plan_reachSources_1 rfl hl (by decide) rfl (fun ls hl => ?_)
  obtain ⟨k_2, hk_2, hR⟩ : ∃ k, f_Plan_reachSources_x2 = k ∧ f_Plan_reachSources_h2 VP0 LP0 x1 IP0 LP2 LP3 k 13 0 LP4 IP1 = r0 := ⟨_, rfl, hR⟩
  have X_2 : ∀ (x2_2 : Nat) (LP4_2 : Nat → Int64) (IP1_2 : Nat → Int32) (hi : x2_2 ≤ VP0) (H : Heap) (locs : List Loc) (hP : va_P (dC, dI) vwCl (w_P cI cJ cZ aP VP0 VP1 VP2 NP0 LP0 LP1 LP2 LP3 LP4_2 IP0 IP1_2 aS ++ w_S cI cJ cZ aS VS0 VS1 VS2 NS0 NS1 NS2 LS0 LS1 LS2 LS3 LS4 LS5 LS6 LS7 LS8 IS0 aY ++ w_Y cI cJ cZ aY VY0 LY0 LY1 LY2 IY0) H) (hD : va_D A (w_P cI cJ cZ aP VP0 VP1 VP2 NP0 LP0 LP1 LP2 LP3 LP4_2 IP0 IP1_2 aS ++ w_S cI cJ cZ aS VS0 VS1 VS2 NS0 NS1 NS2 LS0 LS1 LS2 LS3 LS4 LS5 LS6 LS7 LS8 IS0 aY ++ w_Y cI cJ cZ aY VY0 LY0 LY1 LY2 IY0)) (hS : va_S A s.heap H locs) (ls : Array Slot) (hl : lv_has ls 5 [(0, .ref (aP 0)), (1, .int (nI x1)), (2, .int (nI x2_2))]) (hR : k_2 x2_2 LP4_2 IP1_2 = r0), W p l e (headSpec u_Plan_reachSources ({ frames := 1, cells := 0, slots := 0, locals := 26 })).room s m ([.ref (aP 0), .int (nI x1)]).toArray below meth c H locs 0 0 (hh_Zv below (dC, dI) vwCl [(cI, .int), (cJ, .long), (cZ, .boolean)] A (w_P cI cJ cZ aP VP0 VP1 VP2 NP0 LP0 LP1 LP2 LP3 r0.1 IP0 r0.2 aS ++ w_S cI cJ cZ aS VS0 VS1 VS2 NS0 NS1 NS2 LS0 LS1 LS2 LS3 LS4 LS5 LS6 LS7 LS8 IS0 aY ++ w_Y cI cJ cZ aY VY0 LY0 LY1 LY2 IY0) ([.ref (aP 0), .int (nI x1)]).toArray s) (F0 m 60 ls []) := by
    intro x2_2 LP4_2 IP1_2 hi H locs hP hD hS ls hl hR
    rw [← hk_2] at hR
    unfold f_Plan_reachSources_x2 at hR
    subst hR
    exact W.vret hx hb hr (fun t ht hW => ⟨⟨(), rfl, trivial, by rw [ht]; exact hP, va_K.moved hW.alike hK, hD⟩, hS.F ht⟩) hS.2.2 d_Plan_reachSources_60
  have L_2 : ∀ (n : Nat) (x2_2 : Nat) (LP4_2 : Nat → Int64) (IP1_2 : Nat → Int32) (hi : x2_2 ≤ VP0) (hfu : VP0 - x2_2 < n) (H : Heap) (locs : List Loc) (hP : va_P (dC, dI) vwCl (w_P cI cJ cZ aP VP0 VP1 VP2 NP0 LP0 LP1 LP2 LP3 LP4_2 IP0 IP1_2 aS ++ w_S cI cJ cZ aS VS0 VS1 VS2 NS0 NS1 NS2 LS0 LS1 LS2 LS3 LS4 LS5 LS6 LS7 LS8 IS0 aY ++ w_Y cI cJ cZ aY VY0 LY0 LY1 LY2 IY0) H) (hD : va_D A (w_P cI cJ cZ aP VP0 VP1 VP2 NP0 LP0 LP1 LP2 LP3 LP4_2 IP0 IP1_2 aS ++ w_S cI cJ cZ aS VS0 VS1 VS2 NS0 NS1 NS2 LS0 LS1 LS2 LS3 LS4 LS5 LS6 LS7 LS8 IS0 aY ++ w_Y cI cJ cZ aY VY0 LY0 LY1 LY2 IY0)) (hS : va_S A s.heap H locs) (ls : Array Slot) (hl : lv_has ls 5 [(0, .ref (aP 0)), (1, .int (nI x1)), (2, .int (nI x2_2))]) (hR : f_Plan_reachSources_h2 VP0 LP0 x1 IP0 LP2 LP3 k_2 n x2_2 LP4_2 IP1_2 = r0), W p l e (headSpec u_Plan_reachSources ({ frames := 1, cells := 0, slots := 0, locals := 26 })).room s m ([.ref (aP 0), .int (nI x1)]).toArray below meth c H locs 0 0 (hh_Zv below (dC, dI) vwCl [(cI, .int), (cJ, .long), (cZ, .boolean)] A (w_P cI cJ cZ aP VP0 VP1 VP2 NP0 LP0 LP1 LP2 LP3 r0.1 IP0 r0.2 aS ++ w_S cI cJ cZ aS VS0 VS1 VS2 NS0 NS1 NS2 LS0 LS1 LS2 LS3 LS4 LS5 LS6 LS7 LS8 IS0 aY ++ w_Y cI cJ cZ aY VY0 LY0 LY1 LY2 IY0) ([.ref (aP 0), .int (nI x1)]).toArray s) (F0 m 2 ls []) := by
    intro n
    induction n with
    | zero =>
      intro x2_2 LP4_2 IP1_2 hi hfu H locs hP hD hS ls hl hR
      exact absurd hfu (Nat.not_lt_zero _)
    | succ n ih_2 =>
      intro x2_2 LP4_2 IP1_2 hi hfu H locs hP hD hS ls hl hR
      rw [f_Plan_reachSources_h2] at hR
      obtain ⟨rec_2, hrec_2, hR⟩ : ∃ r, r = _ ∧ f_Plan_reachSources_h2B VP0 LP0 x1 IP0 LP2 LP3 k_2 r x2_2 LP4_2 IP1_2 = r0 := ⟨_, rfl, hR⟩
      unfold f_Plan_reachSources_h2B at hR
      refine lv_iload_n hx hb d_Plan_reachSources_2 rfl (lv_at hl 2 rfl) ?_
      refine lv_aload_n hx hb d_Plan_reachSources_3 rfl (lv_at hl 0 rfl) ?_
      refine va_get (D := (dC, dI)) (ci := 0) (v := .int (nI VP0)) (C := R_Plan) (T := T_Plan) (N := 12) hx hb hG in_Plan hown hK hP 0 rfl rfl 1 (by decide) (hG _ m_132) (fun _ h9 => h9) rfl d_Plan_reachSources_4 ?_
      refine hw_icmp_ge (tgt := 60) hx hb d_Plan_reachSources_7 (by decide) (by omega) (by omega) (fun c7 => ?_) (fun c7 => ?_)
      · replace hR := (if_pos c7).symm.trans hR
        exact X_2 x2_2 LP4_2 IP1_2 (by first | assumption | omega | exact hw_upb (by assumption) (by omega)) H locs hP hD hS ls (lv_sub hl [0, 1, 2] rfl) hR
      · replace hR := (if_neg c7).symm.trans hR
        refine lv_aload_n hx hb d_Plan_reachSources_10 rfl (lv_at hl 0 rfl) ?_
        refine va_get (D := (dC, dI)) (ci := 0) (v := .ref (aP 1)) (C := R_Plan) (T := T_Plan) (N := 12) hx hb hG in_Plan hown hK hP 0 rfl rfl 3 (by decide) (hG _ m_134) (fun _ h9 => h9) rfl d_Plan_reachSources_11 ?_
        refine lv_iload_n hx hb d_Plan_reachSources_14 rfl (lv_at hl 2 rfl) ?_
        refine lv_bipush (v := nI 9) hx hb d_Plan_reachSources_15 (by decide) ?_
        refine hw_imul hx hb d_Plan_reachSources_17 ?_
        refine lv_iload_n hx hb d_Plan_reachSources_18 rfl (lv_at hl 1 rfl) ?_
        refine hw_iadd hx hb d_Plan_reachSources_19 ?_
        refine hw_lald (f := LP0) hx hb hK hP 1 1 rfl rfl (by decide) (by omega) d_Plan_reachSources_20 ?_
        refine lv_lstore_n (lv' := [(3, .long (LP0 ((x2_2 * 9) + x1))), (0, .ref (aP 0)), (1, .int (nI x1)), (2, .int (nI x2_2))]) hx hb d_Plan_reachSources_21 rfl hl (by decide) rfl (fun ls hl => ?_)
        refine lv_lload_n hx hb d_Plan_reachSources_22 rfl (lv_at hl 0 rfl) ?_
        refine lv_ldc2 (v := (-1)) hx hb hown (hG _ m_330) d_Plan_reachSources_23 ?_
        refine hw_lcmp_eq (tgt := 54) hx hb d_Plan_reachSources_26 d_Plan_reachSources_27 (by decide) (fun c26 => ?_) (fun c26 => ?_)
        · replace hR := (if_pos c26).symm.trans hR
          refine lv_iinc (v := nI (x2_2 + 1)) (lv' := [(2, .int (nI (x2_2 + 1))), (3, .long (LP0 ((x2_2 * 9) + x1))), (0, .ref (aP 0)), (1, .int (nI x1))]) hx hb d_Plan_reachSources_54 hl (k := 3) rfl (hw_inc _ 1) (by decide) rfl (fun ls hl => ?_)
          refine lv_goto (tgt := 2) hx hb d_Plan_reachSources_57 (by decide) ?_
          rw [hrec_2] at hR
          exact ih_2 (x2_2 + 1) LP4_2 IP1_2 (by first | assumption | omega | exact hw_upb (by assumption) (by omega)) (by omega) H locs hP hD hS ls (lv_sub hl [2, 3, 0] rfl) hR
        · replace hR := (if_neg c26).symm.trans hR
          refine lv_aload_n hx hb d_Plan_reachSources_30 rfl (lv_at hl 1 rfl) ?_
          refine lv_iload_n hx hb d_Plan_reachSources_31 rfl (lv_at hl 3 rfl) ?_
          refine lv_bipush (v := nI 12) hx hb d_Plan_reachSources_32 (by decide) ?_
          refine lv_iload_n hx hb d_Plan_reachSources_34 rfl (lv_at hl 2 rfl) ?_
          refine hw_iadd hx hb d_Plan_reachSources_35 ?_
          refine lv_lload_n hx hb d_Plan_reachSources_36 rfl (lv_at hl 0 rfl) ?_
          refine lv_aload_n hx hb d_Plan_reachSources_37 rfl (lv_at hl 1 rfl) ?_
          refine va_get (D := (dC, dI)) (ci := 0) (v := .ref (aP 3)) (C := R_Plan) (T := T_Plan) (N := 12) hx hb hG in_Plan hown hK hP 0 rfl rfl 5 (by decide) (hG _ m_136) (fun _ h9 => h9) rfl d_Plan_reachSources_38 ?_
          refine lv_iload_n hx hb d_Plan_reachSources_41 rfl (lv_at hl 3 rfl) ?_
          refine hw_lald (f := LP2) hx hb hK hP 3 1 rfl rfl (by decide) (by omega) d_Plan_reachSources_42 ?_
          refine lv_ladd hx hb d_Plan_reachSources_43 ?_
          refine lv_aload_n hx hb d_Plan_reachSources_44 rfl (lv_at hl 1 rfl) ?_
          refine va_get (D := (dC, dI)) (ci := 0) (v := .ref (aP 4)) (C := R_Plan) (T := T_Plan) (N := 12) hx hb hG in_Plan hown hK hP 0 rfl rfl 6 (by decide) (hG _ m_137) (fun _ h9 => h9) rfl d_Plan_reachSources_45 ?_
          refine lv_iload_n hx hb d_Plan_reachSources_48 rfl (lv_at hl 2 rfl) ?_
          refine hw_lald (f := LP3) hx hb hK hP 4 1 rfl rfl (by decide) (by omega) d_Plan_reachSources_49 ?_
          refine lv_lsub hx hb d_Plan_reachSources_50 ?_
          obtain ⟨y51, hy51, hR⟩ := hw_bind hR
          have hM := c_Plan_reach l dC dI cI cJ cZ H.size aP VP0 VP1 VP2 NP0 LP0 LP1 LP2 LP3 LP4_2 IP0 IP1_2 aS VS0 VS1 VS2 NS0 NS1 NS2 LS0 LS1 LS2 LS3 LS4 LS5 LS6 LS7 LS8 IS0 aY VY0 LY0 LY1 LY2 IY0 x2_2 (12 + x1) (((LP0 ((x2_2 * 9) + x1)) + (LP2 x2_2)) - (LP3 x1)) (by first | assumption | omega) (by first | assumption | omega)
          rw [hy51] at hM
          refine hw_callVv (As := [.int (nI x2_2), .int (nI (12 + x1)), .long (((LP0 ((x2_2 * 9) + x1)) + (LP2 x2_2)) - (LP3 x1))]) (rest := []) (wr := ([] : va_W)) ⟨hx, hb, hml, hown, hG⟩ hM (hw_cwV 3 hG m_344 m_346 mp_3 m_5 m_347 rfl rfl (by decide +kernel) ⟨Nat.le_of_ble_eq_true rfl, Nat.le_of_ble_eq_true rfl⟩) hK hP hD hS hA [0, 1, 2, 3, 4, 5, 6, 7, 8, 9, 10, 11, 12, 13, 14, 15, 16, 17, 18, 19, 20, 21, 22, 23, 24, 25, 26, 27] [] rfl rfl (by decide) (by decide) (by decide) (hw_recv hK hP 0 rfl rfl) rfl hl.1 rfl (Nat.le_of_ble_eq_true rfl) d_Plan_reachSources_51 ⟨Nat.le_of_ble_eq_true rfl, Nat.le_of_ble_eq_true rfl⟩ (fun H locs hP hD hS => ?_)
          have hP : va_P (dC, dI) vwCl (w_P cI cJ cZ aP VP0 VP1 VP2 NP0 LP0 LP1 LP2 LP3 y51.1 IP0 y51.2 aS ++ w_S cI cJ cZ aS VS0 VS1 VS2 NS0 NS1 NS2 LS0 LS1 LS2 LS3 LS4 LS5 LS6 LS7 LS8 IS0 aY ++ w_Y cI cJ cZ aY VY0 LY0 LY1 LY2 IY0) H := hP
          have hD : va_D A (w_P cI cJ cZ aP VP0 VP1 VP2 NP0 LP0 LP1 LP2 LP3 y51.1 IP0 y51.2 aS ++ w_S cI cJ cZ aS VS0 VS1 VS2 NS0 NS1 NS2 LS0 LS1 LS2 LS3 LS4 LS5 LS6 LS7 LS8 IS0 aY ++ w_Y cI cJ cZ aY VY0 LY0 LY1 LY2 IY0) := hD
          refine lv_iinc (v := nI (x2_2 + 1)) (lv' := [(2, .int (nI (x2_2 + 1))), (3, .long (LP0 ((x2_2 * 9) + x1))), (0, .ref (aP 0)), (1, .int (nI x1))]) hx hb d_Plan_reachSources_54 hl (k := 3) rfl (hw_inc _ 1) (by decide) rfl (fun ls hl => ?_)
          refine lv_goto (tgt := 2) hx hb d_Plan_reachSources_57 (by decide) ?_
          rw [hrec_2] at hR
          exact ih_2 (x2_2 + 1) y51.1 y51.2 (by first | assumption | omega | exact hw_upb (by assumption) (by omega)) (by omega) H locs hP hD hS ls (lv_sub hl [2, 3, 0] rfl) hR
  exact L_2 13 0 LP4 IP1 (by first | assumption | omega | exact hw_upb (by assumption) (by omega)) (by omega) H locs hP hD hS ls (lv_sub hl [1, 2, 0] rfl) hR
def f_Plan_nearest_h9B (VP1 : Nat) (IP0 : Nat → Int32) (LP4 : Nat → Int64) (k_9 : (Int32) → (Int64) → (Nat) → Int32) (rec_9 : (Int32) → (Int64) → (Nat) → Int32) (x1_9 : Int32) (x2_9 : Int64) (x4_9 : Nat) : Int32 :=
  if (12 + VP1) ≤ x4_9 then (k_9 x1_9 x2_9 x4_9) else (if (IP0 x4_9) = 0 then (if x2_9 ≤ (LP4 x4_9) then (rec_9 x1_9 x2_9 (x4_9 + 1)) else (rec_9 (nI x4_9) (LP4 x4_9) (x4_9 + 1))) else (rec_9 x1_9 x2_9 (x4_9 + 1)))
def f_Plan_nearest_h9 (VP1 : Nat) (IP0 : Nat → Int32) (LP4 : Nat → Int64) (k_9 : (Int32) → (Int64) → (Nat) → Int32) : Nat → (Int32) → (Int64) → (Nat) → Int32
  | 0, x1_9, x2_9, x4_9 => k_9 x1_9 x2_9 x4_9
  | n + 1, x1_9, x2_9, x4_9 => f_Plan_nearest_h9B VP1 IP0 LP4 k_9 (fun x1_9 x2_9 x4_9 => f_Plan_nearest_h9 VP1 IP0 LP4 k_9 n x1_9 x2_9 x4_9) x1_9 x2_9 x4_9
def f_Plan_nearest_x9  (x1_9 : Int32) (x2_9 : Int64) (x4_9 : Nat) : Int32 :=
  (x1_9)
def f_Plan_nearest (VP1 : Nat) (LP4 : Nat → Int64) (IP0 : Nat → Int32) : Int32 :=
  f_Plan_nearest_h9 VP1 IP0 LP4 f_Plan_nearest_x9 21 (-1) 9223372036854775807 0
set_option maxHeartbeats 4000000 in
set_option maxRecDepth 100000 in
theorem c_Plan_nearest (l : Launch) (dC : Nat → ClassId) (dI : Nat → Nat → Nat) (cI cJ cZ : ClassId) (sz : Nat) (aP : Nat → Nat) (VP0 : Nat) (VP1 : Nat) (VP2 : Nat) (NP0 : Nat → Nat) (LP0 : Nat → Int64) (LP1 : Nat → Int64) (LP2 : Nat → Int64) (LP3 : Nat → Int64) (LP4 : Nat → Int64) (IP0 : Nat → Int32) (IP1 : Nat → Int32) (aS : Nat → Nat) (VS0 : Nat) (VS1 : Nat) (VS2 : Nat) (NS0 : Nat → Nat) (NS1 : Nat → Nat) (NS2 : Nat → Nat) (LS0 : Nat → Int64) (LS1 : Nat → Int64) (LS2 : Nat → Int64) (LS3 : Nat → Int64) (LS4 : Nat → Int64) (LS5 : Nat → Int64) (LS6 : Nat → Int64) (LS7 : Nat → Int64) (LS8 : Nat → Int64) (IS0 : Nat → Int32) (aY : Nat → Nat) (VY0 : Nat) (LY0 : Nat → Int64) (LY1 : Nat → Int64) (LY2 : Nat → Int64) (IY0 : Nat → Int32) (hb8 : VP1 ≤ 8) : hh_Ci l y_Plan_nearest u_Plan_nearest ({ frames := 0, cells := 0, slots := 0, locals := 0 }) (dC, dI) vwCl [(cI, .int), (cJ, .long), (cZ, .boolean)] (w_P cI cJ cZ aP VP0 VP1 VP2 NP0 LP0 LP1 LP2 LP3 LP4 IP0 IP1 aS ++ w_S cI cJ cZ aS VS0 VS1 VS2 NS0 NS1 NS2 LS0 LS1 LS2 LS3 LS4 LS5 LS6 LS7 LS8 IS0 aY ++ w_Y cI cJ cZ aY VY0 LY0 LY1 LY2 IY0) sz [.ref (aP 0)] (f_Plan_nearest VP1 LP4 IP0) (w_P cI cJ cZ aP VP0 VP1 VP2 NP0 LP0 LP1 LP2 LP3 LP4 IP0 IP1 aS ++ w_S cI cJ cZ aS VS0 VS1 VS2 NS0 NS1 NS2 LS0 LS1 LS2 LS3 LS4 LS5 LS6 LS7 LS8 IS0 aY ++ w_Y cI cJ cZ aY VY0 LY0 LY1 LY2 IY0) 0 0 := by
  unfold hh_Ci
  refine Met.ofW (cc := b_Plan_nearest) (maxL := 5) (ret := (some .int)) (by decide) rfl ?_
  intro p e s m args below meth c s₁ B hml hv
  obtain ⟨rfl, hsz, hP, hK, hD0⟩ := hv
  have hx := B.exec
  have hb := B.bytes
  have hr := B.returns
  have hts := atoms_spec (ws := u_Plan_nearest) B.pre
  have hG : ∀ w ∈ wG, w.before ([.ref (aP 0)]).toArray s = true := fun w h => hts w (List.mem_cons_of_mem _ h)
  have hown : s.vm.findClass R_Plan = some m.cls := findClass_of_methodNamed B.named
  have hlocks := B.notSynchronized
  subst hsz
  have hD := hD0.self (sz := s.heap.size)
  generalize hAe : va_A (w_P cI cJ cZ aP VP0 VP1 VP2 NP0 LP0 LP1 LP2 LP3 LP4 IP0 IP1 aS ++ w_S cI cJ cZ aS VS0 VS1 VS2 NS0 NS1 NS2 LS0 LS1 LS2 LS3 LS4 LS5 LS6 LS7 LS8 IS0 aY ++ w_Y cI cJ cZ aY VY0 LY0 LY1 LY2 IY0) s.heap.size = A at hD ⊢
  have hA : ∀ q : Nat, s.heap.size ≤ q → A q := fun q h => by rw [← hAe]; exact Or.inr h
  have hS : va_S A s.heap s.heap [] := va_S.rf
  have hl := lv_entry ([.ref (aP 0)]) (n := 5) (Nat.le_of_ble_eq_true rfl)
  rw [lg_entry_eq]
  generalize (lg_sl ([.ref (aP 0)]) ++ List.replicate (5 - (lg_sl ([.ref (aP 0)])).length) Slot.unset).toArray = ls at hl ⊢
  have hl : lv_has ls 5 [(0, .ref (aP 0))] := hl
  generalize hR : f_Plan_nearest VP1 LP4 IP0 = r0
  obtain ⟨H, locs, hHe, hle⟩ : ∃ (H : Heap) (locs : List Loc), s.heap = H ∧ [] = locs := ⟨_, _, rfl, rfl⟩
  have hP : va_P (dC, dI) vwCl (w_P cI cJ cZ aP VP0 VP1 VP2 NP0 LP0 LP1 LP2 LP3 LP4 IP0 IP1 aS ++ w_S cI cJ cZ aS VS0 VS1 VS2 NS0 NS1 NS2 LS0 LS1 LS2 LS3 LS4 LS5 LS6 LS7 LS8 IS0 aY ++ w_Y cI cJ cZ aY VY0 LY0 LY1 LY2 IY0) H := by rw [← hHe]; exact hP
  have hS : va_S A s.heap H locs := by rw [← hHe, ← hle]; exact hS
  refine hw_start hHe hle ?_
  unfold f_Plan_nearest at hR
  refine lv_iconst (v := (-1)) hx hb d_Plan_nearest_0 (by decide) ?_
  refine lv_istore_n (lv' := [(1, .int (-1)), (0, .ref (aP 0))]) hx hb d_Plan_nearest_1 rfl hl (by decide) rfl (fun ls hl => ?_)
  refine lv_ldc2 (v := 9223372036854775807) hx hb hown (hG _ m_335) d_Plan_nearest_2 ?_
  refine lv_lstore_n (lv' := [(2, .long 9223372036854775807), (1, .int (-1)), (0, .ref (aP 0))]) hx hb d_Plan_nearest_5 rfl hl (by decide) rfl (fun ls hl => ?_)
  refine lv_iconst (v := nI 0) hx hb d_Plan_nearest_6 (by decide) ?_
  refine lv_istore (lv' := [(4, .int (nI 0)), (2, .long 9223372036854775807), (1, .int (-1)), (0, .ref (aP 0))]) hx hb d_Plan_nearest_7 hl (by decide) rfl (fun ls hl => ?_)
  obtain ⟨k_9, hk_9, hR⟩ : ∃ k, f_Plan_nearest_x9 = k ∧ f_Plan_nearest_h9 VP1 IP0 LP4 k 21 (-1) 9223372036854775807 0 = r0 := ⟨_, rfl, hR⟩
  have X_9 : ∀ (x1_9 : Int32) (x2_9 : Int64) (x4_9 : Nat) (hi : x4_9 ≤ (12 + VP1)) (H : Heap) (locs : List Loc) (hP : va_P (dC, dI) vwCl (w_P cI cJ cZ aP VP0 VP1 VP2 NP0 LP0 LP1 LP2 LP3 LP4 IP0 IP1 aS ++ w_S cI cJ cZ aS VS0 VS1 VS2 NS0 NS1 NS2 LS0 LS1 LS2 LS3 LS4 LS5 LS6 LS7 LS8 IS0 aY ++ w_Y cI cJ cZ aY VY0 LY0 LY1 LY2 IY0) H) (hD : va_D A (w_P cI cJ cZ aP VP0 VP1 VP2 NP0 LP0 LP1 LP2 LP3 LP4 IP0 IP1 aS ++ w_S cI cJ cZ aS VS0 VS1 VS2 NS0 NS1 NS2 LS0 LS1 LS2 LS3 LS4 LS5 LS6 LS7 LS8 IS0 aY ++ w_Y cI cJ cZ aY VY0 LY0 LY1 LY2 IY0)) (hS : va_S A s.heap H locs) (ls : Array Slot) (hl : lv_has ls 5 [(0, .ref (aP 0)), (1, .int x1_9), (2, .long x2_9), (4, .int (nI x4_9))]) (hR : k_9 x1_9 x2_9 x4_9 = r0), W p l e (headSpec u_Plan_nearest ({ frames := 0, cells := 0, slots := 0, locals := 0 })).room s m ([.ref (aP 0)]).toArray below meth c H locs 0 0 (hh_Zi below (dC, dI) vwCl [(cI, .int), (cJ, .long), (cZ, .boolean)] A r0 (w_P cI cJ cZ aP VP0 VP1 VP2 NP0 LP0 LP1 LP2 LP3 LP4 IP0 IP1 aS ++ w_S cI cJ cZ aS VS0 VS1 VS2 NS0 NS1 NS2 LS0 LS1 LS2 LS3 LS4 LS5 LS6 LS7 LS8 IS0 aY ++ w_Y cI cJ cZ aY VY0 LY0 LY1 LY2 IY0) ([.ref (aP 0)]).toArray s) (F0 m 60 ls []) := by
    intro x1_9 x2_9 x4_9 hi H locs hP hD hS ls hl hR
    rw [← hk_9] at hR
    unfold f_Plan_nearest_x9 at hR
    refine lv_iload_n hx hb d_Plan_nearest_60 rfl (lv_at hl 1 rfl) ?_
    subst hR
    exact W.iret (v := x1_9) hx hb hr (fun t ht hW => ⟨⟨_, (), rfl, rfl, by rw [ht]; exact hP, va_K.moved hW.alike hK, hD⟩, hS.F ht⟩) hS.2.2 d_Plan_nearest_61
  have L_9 : ∀ (n : Nat) (x1_9 : Int32) (x2_9 : Int64) (x4_9 : Nat) (hi : x4_9 ≤ (12 + VP1)) (hfu : (12 + VP1) - x4_9 < n) (H : Heap) (locs : List Loc) (hP : va_P (dC, dI) vwCl (w_P cI cJ cZ aP VP0 VP1 VP2 NP0 LP0 LP1 LP2 LP3 LP4 IP0 IP1 aS ++ w_S cI cJ cZ aS VS0 VS1 VS2 NS0 NS1 NS2 LS0 LS1 LS2 LS3 LS4 LS5 LS6 LS7 LS8 IS0 aY ++ w_Y cI cJ cZ aY VY0 LY0 LY1 LY2 IY0) H) (hD : va_D A (w_P cI cJ cZ aP VP0 VP1 VP2 NP0 LP0 LP1 LP2 LP3 LP4 IP0 IP1 aS ++ w_S cI cJ cZ aS VS0 VS1 VS2 NS0 NS1 NS2 LS0 LS1 LS2 LS3 LS4 LS5 LS6 LS7 LS8 IS0 aY ++ w_Y cI cJ cZ aY VY0 LY0 LY1 LY2 IY0)) (hS : va_S A s.heap H locs) (ls : Array Slot) (hl : lv_has ls 5 [(0, .ref (aP 0)), (1, .int x1_9), (2, .long x2_9), (4, .int (nI x4_9))]) (hR : f_Plan_nearest_h9 VP1 IP0 LP4 k_9 n x1_9 x2_9 x4_9 = r0), W p l e (headSpec u_Plan_nearest ({ frames := 0, cells := 0, slots := 0, locals := 0 })).room s m ([.ref (aP 0)]).toArray below meth c H locs 0 0 (hh_Zi below (dC, dI) vwCl [(cI, .int), (cJ, .long), (cZ, .boolean)] A r0 (w_P cI cJ cZ aP VP0 VP1 VP2 NP0 LP0 LP1 LP2 LP3 LP4 IP0 IP1 aS ++ w_S cI cJ cZ aS VS0 VS1 VS2 NS0 NS1 NS2 LS0 LS1 LS2 LS3 LS4 LS5 LS6 LS7 LS8 IS0 aY ++ w_Y cI cJ cZ aY VY0 LY0 LY1 LY2 IY0) ([.ref (aP 0)]).toArray s) (F0 m 9 ls []) := by
    intro n
    induction n with
    | zero =>
      intro x1_9 x2_9 x4_9 hi hfu H locs hP hD hS ls hl hR
      exact absurd hfu (Nat.not_lt_zero _)
    | succ n ih_9 =>
      intro x1_9 x2_9 x4_9 hi hfu H locs hP hD hS ls hl hR
      rw [f_Plan_nearest_h9] at hR
      obtain ⟨rec_9, hrec_9, hR⟩ : ∃ r, r = _ ∧ f_Plan_nearest_h9B VP1 IP0 LP4 k_9 r x1_9 x2_9 x4_9 = r0 := ⟨_, rfl, hR⟩
      unfold f_Plan_nearest_h9B at hR
      refine lv_iload hx hb d_Plan_nearest_9 (lv_at hl 3 rfl) ?_
      refine lv_bipush (v := nI 12) hx hb d_Plan_nearest_11 (by decide) ?_
      refine lv_aload_n hx hb d_Plan_nearest_13 rfl (lv_at hl 0 rfl) ?_
      refine va_get (D := (dC, dI)) (ci := 0) (v := .int (nI VP1)) (C := R_Plan) (T := T_Plan) (N := 12) hx hb hG in_Plan hown hK hP 0 rfl rfl 2 (by decide) (hG _ m_133) (fun _ h9 => h9) rfl d_Plan_nearest_14 ?_
      refine hw_iadd hx hb d_Plan_nearest_17 ?_
      refine hw_icmp_ge (tgt := 60) hx hb d_Plan_nearest_18 (by decide) (by omega) (by omega) (fun c18 => ?_) (fun c18 => ?_)
      · replace hR := (if_pos c18).symm.trans hR
        exact X_9 x1_9 x2_9 x4_9 (by first | assumption | omega | exact hw_upb (by assumption) (by omega)) H locs hP hD hS ls (lv_sub hl [0, 1, 2, 3] rfl) hR
      · replace hR := (if_neg c18).symm.trans hR
        refine lv_aload_n hx hb d_Plan_nearest_21 rfl (lv_at hl 0 rfl) ?_
        refine va_get (D := (dC, dI)) (ci := 0) (v := .ref (aP 6)) (C := R_Plan) (T := T_Plan) (N := 12) hx hb hG in_Plan hown hK hP 0 rfl rfl 8 (by decide) (hG _ m_139) (fun _ h9 => h9) rfl d_Plan_nearest_22 ?_
        refine lv_iload hx hb d_Plan_nearest_25 (lv_at hl 3 rfl) ?_
        refine hw_zald (f := IP0) hx hb hK hP 6 2 rfl rfl (by decide) (by omega) d_Plan_nearest_27 ?_
        refine lv_if_ne (tgt := 54) hx hb d_Plan_nearest_28 (by decide) (fun c28 => ?_) (fun c28 => ?_)
        · replace hR := (if_neg c28).symm.trans hR
          refine lv_iinc (v := nI (x4_9 + 1)) (lv' := [(4, .int (nI (x4_9 + 1))), (0, .ref (aP 0)), (1, .int x1_9), (2, .long x2_9)]) hx hb d_Plan_nearest_54 hl (k := 3) rfl (hw_inc _ 1) (by decide) rfl (fun ls hl => ?_)
          refine lv_goto (tgt := 9) hx hb d_Plan_nearest_57 (by decide) ?_
          rw [hrec_9] at hR
          exact ih_9 x1_9 x2_9 (x4_9 + 1) (by first | assumption | omega | exact hw_upb (by assumption) (by omega)) (by omega) H locs hP hD hS ls (lv_sub hl [1, 2, 3, 0] rfl) hR
        · replace hR := (if_pos c28).symm.trans hR
          refine lv_aload_n hx hb d_Plan_nearest_31 rfl (lv_at hl 0 rfl) ?_
          refine va_get (D := (dC, dI)) (ci := 0) (v := .ref (aP 5)) (C := R_Plan) (T := T_Plan) (N := 12) hx hb hG in_Plan hown hK hP 0 rfl rfl 7 (by decide) (hG _ m_138) (fun _ h9 => h9) rfl d_Plan_nearest_32 ?_
          refine lv_iload hx hb d_Plan_nearest_35 (lv_at hl 3 rfl) ?_
          refine hw_lald (f := LP4) hx hb hK hP 5 1 rfl rfl (by decide) (by omega) d_Plan_nearest_37 ?_
          refine lv_lload_n hx hb d_Plan_nearest_38 rfl (lv_at hl 2 rfl) ?_
          refine hw_lcmp_ge (tgt := 54) hx hb d_Plan_nearest_39 d_Plan_nearest_40 (by decide) (fun c39 => ?_) (fun c39 => ?_)
          · replace hR := (if_pos c39).symm.trans hR
            refine lv_iinc (v := nI (x4_9 + 1)) (lv' := [(4, .int (nI (x4_9 + 1))), (0, .ref (aP 0)), (1, .int x1_9), (2, .long x2_9)]) hx hb d_Plan_nearest_54 hl (k := 3) rfl (hw_inc _ 1) (by decide) rfl (fun ls hl => ?_)
            refine lv_goto (tgt := 9) hx hb d_Plan_nearest_57 (by decide) ?_
            rw [hrec_9] at hR
            exact ih_9 x1_9 x2_9 (x4_9 + 1) (by first | assumption | omega | exact hw_upb (by assumption) (by omega)) (by omega) H locs hP hD hS ls (lv_sub hl [1, 2, 3, 0] rfl) hR
          · replace hR := (if_neg c39).symm.trans hR
            refine lv_aload_n hx hb d_Plan_nearest_43 rfl (lv_at hl 0 rfl) ?_
            refine va_get (D := (dC, dI)) (ci := 0) (v := .ref (aP 5)) (C := R_Plan) (T := T_Plan) (N := 12) hx hb hG in_Plan hown hK hP 0 rfl rfl 7 (by decide) (hG _ m_138) (fun _ h9 => h9) rfl d_Plan_nearest_44 ?_
            refine lv_iload hx hb d_Plan_nearest_47 (lv_at hl 3 rfl) ?_
            refine hw_lald (f := LP4) hx hb hK hP 5 1 rfl rfl (by decide) (by omega) d_Plan_nearest_49 ?_
            refine lv_lstore_n (lv' := [(2, .long (LP4 x4_9)), (0, .ref (aP 0)), (1, .int x1_9), (4, .int (nI x4_9))]) hx hb d_Plan_nearest_50 rfl hl (by decide) rfl (fun ls hl => ?_)
            refine lv_iload hx hb d_Plan_nearest_51 (lv_at hl 3 rfl) ?_
            refine lv_istore_n (lv' := [(1, .int (nI x4_9)), (2, .long (LP4 x4_9)), (0, .ref (aP 0)), (4, .int (nI x4_9))]) hx hb d_Plan_nearest_53 rfl hl (by decide) rfl (fun ls hl => ?_)
            refine lv_iinc (v := nI (x4_9 + 1)) (lv' := [(4, .int (nI (x4_9 + 1))), (1, .int (nI x4_9)), (2, .long (LP4 x4_9)), (0, .ref (aP 0))]) hx hb d_Plan_nearest_54 hl (k := 3) rfl (hw_inc _ 1) (by decide) rfl (fun ls hl => ?_)
            refine lv_goto (tgt := 9) hx hb d_Plan_nearest_57 (by decide) ?_
            rw [hrec_9] at hR
            exact ih_9 (nI x4_9) (LP4 x4_9) (x4_9 + 1) (by first | assumption | omega | exact hw_upb (by assumption) (by omega)) (by omega) H locs hP hD hS ls (lv_sub hl [3, 1, 2, 0] rfl) hR
  exact L_9 21 (-1) 9223372036854775807 0 (by first | assumption | omega | exact hw_upb (by assumption) (by omega)) (by omega) H locs hP hD hS ls (lv_sub hl [3, 2, 1, 0] rfl) hR
def f_Plan_raiseWorths_h43B (VP1 : Nat) (x1 : Int64) (LP4 : Nat → Int64) (k_43 : (Nat) → (Nat → Int64) → (Nat → Int64) × (Nat → Int64)) (rec_43 : (Nat) → (Nat → Int64) → (Nat → Int64) × (Nat → Int64)) (x3_43 : Nat) (LP3_43 : Nat → Int64) : (Nat → Int64) × (Nat → Int64) :=
  if VP1 ≤ x3_43 then (k_43 x3_43 LP3_43) else (rec_43 (x3_43 + 1) (vp_updL LP3_43 x3_43 ((LP3_43 x3_43) + (hh_max 0 (x1 - ((LP4 (12 + x3_43)) / 32))))))
def f_Plan_raiseWorths_h43 (VP1 : Nat) (x1 : Int64) (LP4 : Nat → Int64) (k_43 : (Nat) → (Nat → Int64) → (Nat → Int64) × (Nat → Int64)) : Nat → (Nat) → (Nat → Int64) → (Nat → Int64) × (Nat → Int64)
  | 0, x3_43, LP3_43 => k_43 x3_43 LP3_43
  | n + 1, x3_43, LP3_43 => f_Plan_raiseWorths_h43B VP1 x1 LP4 k_43 (fun x3_43 LP3_43 => f_Plan_raiseWorths_h43 VP1 x1 LP4 k_43 n x3_43 LP3_43) x3_43 LP3_43
def f_Plan_raiseWorths_x43 (LP2_2 : Nat → Int64) (x3_43 : Nat) (LP3_43 : Nat → Int64) : (Nat → Int64) × (Nat → Int64) :=
  (LP2_2, LP3_43)
def f_Plan_raiseWorths_h2B (VP0 : Nat) (x1 : Int64) (LP4 : Nat → Int64) (k_2 : (Nat) → (Nat → Int64) → (Nat → Int64) × (Nat → Int64)) (rec_2 : (Nat) → (Nat → Int64) → (Nat → Int64) × (Nat → Int64)) (x3_2 : Nat) (LP2_2 : Nat → Int64) : (Nat → Int64) × (Nat → Int64) :=
  if VP0 ≤ x3_2 then (k_2 x3_2 LP2_2) else (rec_2 (x3_2 + 1) (vp_updL LP2_2 x3_2 ((LP2_2 x3_2) + (hh_max 0 (x1 - ((LP4 x3_2) / 32))))))
def f_Plan_raiseWorths_h2 (VP0 : Nat) (x1 : Int64) (LP4 : Nat → Int64) (k_2 : (Nat) → (Nat → Int64) → (Nat → Int64) × (Nat → Int64)) : Nat → (Nat) → (Nat → Int64) → (Nat → Int64) × (Nat → Int64)
  | 0, x3_2, LP2_2 => k_2 x3_2 LP2_2
  | n + 1, x3_2, LP2_2 => f_Plan_raiseWorths_h2B VP0 x1 LP4 k_2 (fun x3_2 LP2_2 => f_Plan_raiseWorths_h2 VP0 x1 LP4 k_2 n x3_2 LP2_2) x3_2 LP2_2
def f_Plan_raiseWorths_x2 (VP1 : Nat) (x1 : Int64) (LP4 : Nat → Int64) (LP3 : Nat → Int64) (x3_2 : Nat) (LP2_2 : Nat → Int64) : (Nat → Int64) × (Nat → Int64) :=
  f_Plan_raiseWorths_h43 VP1 x1 LP4 (f_Plan_raiseWorths_x43 LP2_2) 9 0 LP3
def f_Plan_raiseWorths (VP0 : Nat) (VP1 : Nat) (LP2 : Nat → Int64) (LP3 : Nat → Int64) (LP4 : Nat → Int64) (x1 : Int64) : (Nat → Int64) × (Nat → Int64) :=
  f_Plan_raiseWorths_h2 VP0 x1 LP4 (f_Plan_raiseWorths_x2 VP1 x1 LP4 LP3) 13 0 LP2
set_option maxHeartbeats 4000000 in
set_option maxRecDepth 100000 in
theorem c_Plan_raiseWorths (l : Launch) (dC : Nat → ClassId) (dI : Nat → Nat → Nat) (cI cJ cZ : ClassId) (sz : Nat) (aP : Nat → Nat) (VP0 : Nat) (VP1 : Nat) (VP2 : Nat) (NP0 : Nat → Nat) (LP0 : Nat → Int64) (LP1 : Nat → Int64) (LP2 : Nat → Int64) (LP3 : Nat → Int64) (LP4 : Nat → Int64) (IP0 : Nat → Int32) (IP1 : Nat → Int32) (aS : Nat → Nat) (VS0 : Nat) (VS1 : Nat) (VS2 : Nat) (NS0 : Nat → Nat) (NS1 : Nat → Nat) (NS2 : Nat → Nat) (LS0 : Nat → Int64) (LS1 : Nat → Int64) (LS2 : Nat → Int64) (LS3 : Nat → Int64) (LS4 : Nat → Int64) (LS5 : Nat → Int64) (LS6 : Nat → Int64) (LS7 : Nat → Int64) (LS8 : Nat → Int64) (IS0 : Nat → Int32) (aY : Nat → Nat) (VY0 : Nat) (LY0 : Nat → Int64) (LY1 : Nat → Int64) (LY2 : Nat → Int64) (IY0 : Nat → Int32) (x1 : Int64) (hs12 : VP0 ≤ 12) (hb8 : VP1 ≤ 8) : hh_Cv l y_Plan_raiseWorths u_Plan_raiseWorths ({ frames := 1, cells := 0, slots := 0, locals := 23 }) (dC, dI) vwCl [(cI, .int), (cJ, .long), (cZ, .boolean)] (w_P cI cJ cZ aP VP0 VP1 VP2 NP0 LP0 LP1 LP2 LP3 LP4 IP0 IP1 aS ++ w_S cI cJ cZ aS VS0 VS1 VS2 NS0 NS1 NS2 LS0 LS1 LS2 LS3 LS4 LS5 LS6 LS7 LS8 IS0 aY ++ w_Y cI cJ cZ aY VY0 LY0 LY1 LY2 IY0) sz [.ref (aP 0), .long x1] (w_P cI cJ cZ aP VP0 VP1 VP2 NP0 LP0 LP1 ((f_Plan_raiseWorths VP0 VP1 LP2 LP3 LP4 x1).1) ((f_Plan_raiseWorths VP0 VP1 LP2 LP3 LP4 x1).2) LP4 IP0 IP1 aS ++ w_S cI cJ cZ aS VS0 VS1 VS2 NS0 NS1 NS2 LS0 LS1 LS2 LS3 LS4 LS5 LS6 LS7 LS8 IS0 aY ++ w_Y cI cJ cZ aY VY0 LY0 LY1 LY2 IY0) 0 0 := by
  unfold hh_Cv
  refine Met.ofW (cc := b_Plan_raiseWorths) (maxL := 4) (ret := none) (by decide) rfl ?_
  intro p e s m args below meth c s₁ B hml hv
  obtain ⟨rfl, hsz, hP, hK, hD0⟩ := hv
  have hx := B.exec
  have hb := B.bytes
  have hr := B.returns
  have hts := atoms_spec (ws := u_Plan_raiseWorths) B.pre
  have hG : ∀ w ∈ wG, w.before ([.ref (aP 0), .long x1]).toArray s = true := fun w h => hts w (List.mem_cons_of_mem _ h)
  have hown : s.vm.findClass R_Plan = some m.cls := findClass_of_methodNamed B.named
  have hlocks := B.notSynchronized
  subst hsz
  have hD := hD0.self (sz := s.heap.size)
  generalize hAe : va_A (w_P cI cJ cZ aP VP0 VP1 VP2 NP0 LP0 LP1 LP2 LP3 LP4 IP0 IP1 aS ++ w_S cI cJ cZ aS VS0 VS1 VS2 NS0 NS1 NS2 LS0 LS1 LS2 LS3 LS4 LS5 LS6 LS7 LS8 IS0 aY ++ w_Y cI cJ cZ aY VY0 LY0 LY1 LY2 IY0) s.heap.size = A at hD ⊢
  have hA : ∀ q : Nat, s.heap.size ≤ q → A q := fun q h => by rw [← hAe]; exact Or.inr h
  have hS : va_S A s.heap s.heap [] := va_S.rf
  have hl := lv_entry ([.ref (aP 0), .long x1]) (n := 4) (Nat.le_of_ble_eq_true rfl)
  rw [lg_entry_eq]
  generalize (lg_sl ([.ref (aP 0), .long x1]) ++ List.replicate (4 - (lg_sl ([.ref (aP 0), .long x1])).length) Slot.unset).toArray = ls at hl ⊢
  have hl : lv_has ls 4 [(0, .ref (aP 0)), (1, .long x1)] := hl
  generalize hR : f_Plan_raiseWorths VP0 VP1 LP2 LP3 LP4 x1 = r0
  obtain ⟨H, locs, hHe, hle⟩ : ∃ (H : Heap) (locs : List Loc), s.heap = H ∧ [] = locs := ⟨_, _, rfl, rfl⟩
  have hP : va_P (dC, dI) vwCl (w_P cI cJ cZ aP VP0 VP1 VP2 NP0 LP0 LP1 LP2 LP3 LP4 IP0 IP1 aS ++ w_S cI cJ cZ aS VS0 VS1 VS2 NS0 NS1 NS2 LS0 LS1 LS2 LS3 LS4 LS5 LS6 LS7 LS8 IS0 aY ++ w_Y cI cJ cZ aY VY0 LY0 LY1 LY2 IY0) H := by rw [← hHe]; exact hP
  have hS : va_S A s.heap H locs := by rw [← hHe, ← hle]; exact hS
  refine hw_start hHe hle ?_
  unfold f_Plan_raiseWorths at hR
  refine lv_iconst (v := nI 0) hx hb d_Plan_raiseWorths_0 (by decide) ?_
  refine lv_istore_n (lv' := [(3, .int (nI 0)), (0, .ref (aP 0)), (1, .long x1)]) hx hb d_Plan_raiseWorths_1 rfl hl (by decide) rfl (fun ls hl => ?_)
  obtain ⟨k_2, hk_2, hR⟩ : ∃ k, (f_Plan_raiseWorths_x2 VP1 x1 LP4 LP3) = k ∧ f_Plan_raiseWorths_h2 VP0 x1 LP4 k 13 0 LP2 = r0 := ⟨_, rfl, hR⟩
  have X_2 : ∀ (x3_2 : Nat) (LP2_2 : Nat → Int64) (hi : x3_2 ≤ VP0) (H : Heap) (locs : List Loc) (hP : va_P (dC, dI) vwCl (w_P cI cJ cZ aP VP0 VP1 VP2 NP0 LP0 LP1 LP2_2 LP3 LP4 IP0 IP1 aS ++ w_S cI cJ cZ aS VS0 VS1 VS2 NS0 NS1 NS2 LS0 LS1 LS2 LS3 LS4 LS5 LS6 LS7 LS8 IS0 aY ++ w_Y cI cJ cZ aY VY0 LY0 LY1 LY2 IY0) H) (hD : va_D A (w_P cI cJ cZ aP VP0 VP1 VP2 NP0 LP0 LP1 LP2_2 LP3 LP4 IP0 IP1 aS ++ w_S cI cJ cZ aS VS0 VS1 VS2 NS0 NS1 NS2 LS0 LS1 LS2 LS3 LS4 LS5 LS6 LS7 LS8 IS0 aY ++ w_Y cI cJ cZ aY VY0 LY0 LY1 LY2 IY0)) (hS : va_S A s.heap H locs) (ls : Array Slot) (hl : lv_has ls 4 [(0, .ref (aP 0)), (1, .long x1), (3, .int (nI x3_2))]) (hR : k_2 x3_2 LP2_2 = r0), W p l e (headSpec u_Plan_raiseWorths ({ frames := 1, cells := 0, slots := 0, locals := 23 })).room s m ([.ref (aP 0), .long x1]).toArray below meth c H locs 0 0 (hh_Zv below (dC, dI) vwCl [(cI, .int), (cJ, .long), (cZ, .boolean)] A (w_P cI cJ cZ aP VP0 VP1 VP2 NP0 LP0 LP1 r0.1 r0.2 LP4 IP0 IP1 aS ++ w_S cI cJ cZ aS VS0 VS1 VS2 NS0 NS1 NS2 LS0 LS1 LS2 LS3 LS4 LS5 LS6 LS7 LS8 IS0 aY ++ w_Y cI cJ cZ aY VY0 LY0 LY1 LY2 IY0) ([.ref (aP 0), .long x1]).toArray s) (F0 m 41 ls []) := by
    intro x3_2 LP2_2 hi H locs hP hD hS ls hl hR
    rw [← hk_2] at hR
    unfold f_Plan_raiseWorths_x2 at hR
    refine lv_iconst (v := nI 0) hx hb d_Plan_raiseWorths_41 (by decide) ?_
    refine lv_istore_n (lv' := [(3, .int (nI 0)), (0, .ref (aP 0)), (1, .long x1)]) hx hb d_Plan_raiseWorths_42 rfl hl (by decide) rfl (fun ls hl => ?_)
    obtain ⟨k_43, hk_43, hR⟩ : ∃ k, (f_Plan_raiseWorths_x43 LP2_2) = k ∧ f_Plan_raiseWorths_h43 VP1 x1 LP4 k 9 0 LP3 = r0 := ⟨_, rfl, hR⟩
    have X_43 : ∀ (x3_43 : Nat) (LP3_43 : Nat → Int64) (hi : x3_43 ≤ VP1) (H : Heap) (locs : List Loc) (hP : va_P (dC, dI) vwCl (w_P cI cJ cZ aP VP0 VP1 VP2 NP0 LP0 LP1 LP2_2 LP3_43 LP4 IP0 IP1 aS ++ w_S cI cJ cZ aS VS0 VS1 VS2 NS0 NS1 NS2 LS0 LS1 LS2 LS3 LS4 LS5 LS6 LS7 LS8 IS0 aY ++ w_Y cI cJ cZ aY VY0 LY0 LY1 LY2 IY0) H) (hD : va_D A (w_P cI cJ cZ aP VP0 VP1 VP2 NP0 LP0 LP1 LP2_2 LP3_43 LP4 IP0 IP1 aS ++ w_S cI cJ cZ aS VS0 VS1 VS2 NS0 NS1 NS2 LS0 LS1 LS2 LS3 LS4 LS5 LS6 LS7 LS8 IS0 aY ++ w_Y cI cJ cZ aY VY0 LY0 LY1 LY2 IY0)) (hS : va_S A s.heap H locs) (ls : Array Slot) (hl : lv_has ls 4 [(0, .ref (aP 0)), (1, .long x1), (3, .int (nI x3_43))]) (hR : k_43 x3_43 LP3_43 = r0), W p l e (headSpec u_Plan_raiseWorths ({ frames := 1, cells := 0, slots := 0, locals := 23 })).room s m ([.ref (aP 0), .long x1]).toArray below meth c H locs 0 0 (hh_Zv below (dC, dI) vwCl [(cI, .int), (cJ, .long), (cZ, .boolean)] A (w_P cI cJ cZ aP VP0 VP1 VP2 NP0 LP0 LP1 r0.1 r0.2 LP4 IP0 IP1 aS ++ w_S cI cJ cZ aS VS0 VS1 VS2 NS0 NS1 NS2 LS0 LS1 LS2 LS3 LS4 LS5 LS6 LS7 LS8 IS0 aY ++ w_Y cI cJ cZ aY VY0 LY0 LY1 LY2 IY0) ([.ref (aP 0), .long x1]).toArray s) (F0 m 85 ls []) := by
      intro x3_43 LP3_43 hi H locs hP hD hS ls hl hR
      rw [← hk_43] at hR
      unfold f_Plan_raiseWorths_x43 at hR
      subst hR
      exact W.vret hx hb hr (fun t ht hW => ⟨⟨(), rfl, trivial, by rw [ht]; exact hP, va_K.moved hW.alike hK, hD⟩, hS.F ht⟩) hS.2.2 d_Plan_raiseWorths_85
    have L_43 : ∀ (n : Nat) (x3_43 : Nat) (LP3_43 : Nat → Int64) (hi : x3_43 ≤ VP1) (hfu : VP1 - x3_43 < n) (H : Heap) (locs : List Loc) (hP : va_P (dC, dI) vwCl (w_P cI cJ cZ aP VP0 VP1 VP2 NP0 LP0 LP1 LP2_2 LP3_43 LP4 IP0 IP1 aS ++ w_S cI cJ cZ aS VS0 VS1 VS2 NS0 NS1 NS2 LS0 LS1 LS2 LS3 LS4 LS5 LS6 LS7 LS8 IS0 aY ++ w_Y cI cJ cZ aY VY0 LY0 LY1 LY2 IY0) H) (hD : va_D A (w_P cI cJ cZ aP VP0 VP1 VP2 NP0 LP0 LP1 LP2_2 LP3_43 LP4 IP0 IP1 aS ++ w_S cI cJ cZ aS VS0 VS1 VS2 NS0 NS1 NS2 LS0 LS1 LS2 LS3 LS4 LS5 LS6 LS7 LS8 IS0 aY ++ w_Y cI cJ cZ aY VY0 LY0 LY1 LY2 IY0)) (hS : va_S A s.heap H locs) (ls : Array Slot) (hl : lv_has ls 4 [(0, .ref (aP 0)), (1, .long x1), (3, .int (nI x3_43))]) (hR : f_Plan_raiseWorths_h43 VP1 x1 LP4 k_43 n x3_43 LP3_43 = r0), W p l e (headSpec u_Plan_raiseWorths ({ frames := 1, cells := 0, slots := 0, locals := 23 })).room s m ([.ref (aP 0), .long x1]).toArray below meth c H locs 0 0 (hh_Zv below (dC, dI) vwCl [(cI, .int), (cJ, .long), (cZ, .boolean)] A (w_P cI cJ cZ aP VP0 VP1 VP2 NP0 LP0 LP1 r0.1 r0.2 LP4 IP0 IP1 aS ++ w_S cI cJ cZ aS VS0 VS1 VS2 NS0 NS1 NS2 LS0 LS1 LS2 LS3 LS4 LS5 LS6 LS7 LS8 IS0 aY ++ w_Y cI cJ cZ aY VY0 LY0 LY1 LY2 IY0) ([.ref (aP 0), .long x1]).toArray s) (F0 m 43 ls []) := by
      intro n
      induction n with
      | zero =>
        intro x3_43 LP3_43 hi hfu H locs hP hD hS ls hl hR
        exact absurd hfu (Nat.not_lt_zero _)
      | succ n ih_43 =>
        intro x3_43 LP3_43 hi hfu H locs hP hD hS ls hl hR
        rw [f_Plan_raiseWorths_h43] at hR
        obtain ⟨rec_43, hrec_43, hR⟩ : ∃ r, r = _ ∧ f_Plan_raiseWorths_h43B VP1 x1 LP4 k_43 r x3_43 LP3_43 = r0 := ⟨_, rfl, hR⟩
        unfold f_Plan_raiseWorths_h43B at hR
        refine lv_iload_n hx hb d_Plan_raiseWorths_43 rfl (lv_at hl 2 rfl) ?_
        refine lv_aload_n hx hb d_Plan_raiseWorths_44 rfl (lv_at hl 0 rfl) ?_
        refine va_get (D := (dC, dI)) (ci := 0) (v := .int (nI VP1)) (C := R_Plan) (T := T_Plan) (N := 12) hx hb hG in_Plan hown hK hP 0 rfl rfl 2 (by decide) (hG _ m_133) (fun _ h9 => h9) rfl d_Plan_raiseWorths_45 ?_
        refine hw_icmp_ge (tgt := 85) hx hb d_Plan_raiseWorths_48 (by decide) (by omega) (by omega) (fun c48 => ?_) (fun c48 => ?_)
        · replace hR := (if_pos c48).symm.trans hR
          exact X_43 x3_43 LP3_43 (by first | assumption | omega | exact hw_upb (by assumption) (by omega)) H locs hP hD hS ls (lv_sub hl [0, 1, 2] rfl) hR
        · replace hR := (if_neg c48).symm.trans hR
          refine lv_aload_n hx hb d_Plan_raiseWorths_51 rfl (lv_at hl 0 rfl) ?_
          refine va_get (D := (dC, dI)) (ci := 0) (v := .ref (aP 4)) (C := R_Plan) (T := T_Plan) (N := 12) hx hb hG in_Plan hown hK hP 0 rfl rfl 6 (by decide) (hG _ m_137) (fun _ h9 => h9) rfl d_Plan_raiseWorths_52 ?_
          refine lv_iload_n hx hb d_Plan_raiseWorths_55 rfl (lv_at hl 2 rfl) ?_
          refine lv_dup2_11 hx hb d_Plan_raiseWorths_56 rfl rfl ?_
          refine hw_lald (f := LP3_43) hx hb hK hP 4 1 rfl rfl (by decide) (by omega) d_Plan_raiseWorths_57 ?_
          refine lv_lconst (v := 0) hx hb d_Plan_raiseWorths_58 (by decide) ?_
          refine lv_lload_n hx hb d_Plan_raiseWorths_59 rfl (lv_at hl 1 rfl) ?_
          refine lv_aload_n hx hb d_Plan_raiseWorths_60 rfl (lv_at hl 0 rfl) ?_
          refine va_get (D := (dC, dI)) (ci := 0) (v := .ref (aP 5)) (C := R_Plan) (T := T_Plan) (N := 12) hx hb hG in_Plan hown hK hP 0 rfl rfl 7 (by decide) (hG _ m_138) (fun _ h9 => h9) rfl d_Plan_raiseWorths_61 ?_
          refine lv_bipush (v := nI 12) hx hb d_Plan_raiseWorths_64 (by decide) ?_
          refine lv_iload_n hx hb d_Plan_raiseWorths_66 rfl (lv_at hl 2 rfl) ?_
          refine hw_iadd hx hb d_Plan_raiseWorths_67 ?_
          refine hw_lald (f := LP4) hx hb hK hP 5 1 rfl rfl (by decide) (by omega) d_Plan_raiseWorths_68 ?_
          refine lv_ldc2 (v := 32) hx hb hown (hG _ m_348) d_Plan_raiseWorths_69 ?_
          refine lv_ldiv hx hb d_Plan_raiseWorths_72 (by decide) ?_
          refine lv_lsub hx hb d_Plan_raiseWorths_73 ?_
          refine hw_mmax hx hb (hml.trans hl.1.symm) hown (hG _ m_418) (hG _ m_419) (hG _ m_12) (hG _ m_420) (Nat.le_of_ble_eq_true rfl) (Nat.le_of_ble_eq_true rfl) (Nat.zero_le _) (Nat.zero_le _) d_Plan_raiseWorths_74 ?_
          refine lv_ladd hx hb d_Plan_raiseWorths_77 ?_
          refine hw_last (f := LP3_43) hx hb hK hP hD hS 4 1 rfl rfl (by decide) (by omega) d_Plan_raiseWorths_78 (fun H locs hP hD hS => ?_)
          have hP : va_P (dC, dI) vwCl (w_P cI cJ cZ aP VP0 VP1 VP2 NP0 LP0 LP1 LP2_2 (vp_updL LP3_43 x3_43 ((LP3_43 x3_43) + (hh_max 0 (x1 - ((LP4 (12 + x3_43)) / 32))))) LP4 IP0 IP1 aS ++ w_S cI cJ cZ aS VS0 VS1 VS2 NS0 NS1 NS2 LS0 LS1 LS2 LS3 LS4 LS5 LS6 LS7 LS8 IS0 aY ++ w_Y cI cJ cZ aY VY0 LY0 LY1 LY2 IY0) H := hP
          have hD : va_D A (w_P cI cJ cZ aP VP0 VP1 VP2 NP0 LP0 LP1 LP2_2 (vp_updL LP3_43 x3_43 ((LP3_43 x3_43) + (hh_max 0 (x1 - ((LP4 (12 + x3_43)) / 32))))) LP4 IP0 IP1 aS ++ w_S cI cJ cZ aS VS0 VS1 VS2 NS0 NS1 NS2 LS0 LS1 LS2 LS3 LS4 LS5 LS6 LS7 LS8 IS0 aY ++ w_Y cI cJ cZ aY VY0 LY0 LY1 LY2 IY0) := hD
          refine lv_iinc (v := nI (x3_43 + 1)) (lv' := [(3, .int (nI (x3_43 + 1))), (0, .ref (aP 0)), (1, .long x1)]) hx hb d_Plan_raiseWorths_79 hl (k := 2) rfl (hw_inc _ 1) (by decide) rfl (fun ls hl => ?_)
          refine lv_goto (tgt := 43) hx hb d_Plan_raiseWorths_82 (by decide) ?_
          rw [hrec_43] at hR
          exact ih_43 (x3_43 + 1) (vp_updL LP3_43 x3_43 ((LP3_43 x3_43) + (hh_max 0 (x1 - ((LP4 (12 + x3_43)) / 32))))) (by first | assumption | omega | exact hw_upb (by assumption) (by omega)) (by omega) H locs hP hD hS ls (lv_sub hl [1, 2, 0] rfl) hR
    exact L_43 9 0 LP3 (by first | assumption | omega | exact hw_upb (by assumption) (by omega)) (by omega) H locs hP hD hS ls (lv_sub hl [1, 2, 0] rfl) hR
  have L_2 : ∀ (n : Nat) (x3_2 : Nat) (LP2_2 : Nat → Int64) (hi : x3_2 ≤ VP0) (hfu : VP0 - x3_2 < n) (H : Heap) (locs : List Loc) (hP : va_P (dC, dI) vwCl (w_P cI cJ cZ aP VP0 VP1 VP2 NP0 LP0 LP1 LP2_2 LP3 LP4 IP0 IP1 aS ++ w_S cI cJ cZ aS VS0 VS1 VS2 NS0 NS1 NS2 LS0 LS1 LS2 LS3 LS4 LS5 LS6 LS7 LS8 IS0 aY ++ w_Y cI cJ cZ aY VY0 LY0 LY1 LY2 IY0) H) (hD : va_D A (w_P cI cJ cZ aP VP0 VP1 VP2 NP0 LP0 LP1 LP2_2 LP3 LP4 IP0 IP1 aS ++ w_S cI cJ cZ aS VS0 VS1 VS2 NS0 NS1 NS2 LS0 LS1 LS2 LS3 LS4 LS5 LS6 LS7 LS8 IS0 aY ++ w_Y cI cJ cZ aY VY0 LY0 LY1 LY2 IY0)) (hS : va_S A s.heap H locs) (ls : Array Slot) (hl : lv_has ls 4 [(0, .ref (aP 0)), (1, .long x1), (3, .int (nI x3_2))]) (hR : f_Plan_raiseWorths_h2 VP0 x1 LP4 k_2 n x3_2 LP2_2 = r0), W p l e (headSpec u_Plan_raiseWorths ({ frames := 1, cells := 0, slots := 0, locals := 23 })).room s m ([.ref (aP 0), .long x1]).toArray below meth c H locs 0 0 (hh_Zv below (dC, dI) vwCl [(cI, .int), (cJ, .long), (cZ, .boolean)] A (w_P cI cJ cZ aP VP0 VP1 VP2 NP0 LP0 LP1 r0.1 r0.2 LP4 IP0 IP1 aS ++ w_S cI cJ cZ aS VS0 VS1 VS2 NS0 NS1 NS2 LS0 LS1 LS2 LS3 LS4 LS5 LS6 LS7 LS8 IS0 aY ++ w_Y cI cJ cZ aY VY0 LY0 LY1 LY2 IY0) ([.ref (aP 0), .long x1]).toArray s) (F0 m 2 ls []) := by
    intro n
    induction n with
    | zero =>
      intro x3_2 LP2_2 hi hfu H locs hP hD hS ls hl hR
      exact absurd hfu (Nat.not_lt_zero _)
    | succ n ih_2 =>
      intro x3_2 LP2_2 hi hfu H locs hP hD hS ls hl hR
      rw [f_Plan_raiseWorths_h2] at hR
      obtain ⟨rec_2, hrec_2, hR⟩ : ∃ r, r = _ ∧ f_Plan_raiseWorths_h2B VP0 x1 LP4 k_2 r x3_2 LP2_2 = r0 := ⟨_, rfl, hR⟩
      unfold f_Plan_raiseWorths_h2B at hR
      refine lv_iload_n hx hb d_Plan_raiseWorths_2 rfl (lv_at hl 2 rfl) ?_
      refine lv_aload_n hx hb d_Plan_raiseWorths_3 rfl (lv_at hl 0 rfl) ?_
      refine va_get (D := (dC, dI)) (ci := 0) (v := .int (nI VP0)) (C := R_Plan) (T := T_Plan) (N := 12) hx hb hG in_Plan hown hK hP 0 rfl rfl 1 (by decide) (hG _ m_132) (fun _ h9 => h9) rfl d_Plan_raiseWorths_4 ?_
      refine hw_icmp_ge (tgt := 41) hx hb d_Plan_raiseWorths_7 (by decide) (by omega) (by omega) (fun c7 => ?_) (fun c7 => ?_)
      · replace hR := (if_pos c7).symm.trans hR
        exact X_2 x3_2 LP2_2 (by first | assumption | omega | exact hw_upb (by assumption) (by omega)) H locs hP hD hS ls (lv_sub hl [0, 1, 2] rfl) hR
      · replace hR := (if_neg c7).symm.trans hR
        refine lv_aload_n hx hb d_Plan_raiseWorths_10 rfl (lv_at hl 0 rfl) ?_
        refine va_get (D := (dC, dI)) (ci := 0) (v := .ref (aP 3)) (C := R_Plan) (T := T_Plan) (N := 12) hx hb hG in_Plan hown hK hP 0 rfl rfl 5 (by decide) (hG _ m_136) (fun _ h9 => h9) rfl d_Plan_raiseWorths_11 ?_
        refine lv_iload_n hx hb d_Plan_raiseWorths_14 rfl (lv_at hl 2 rfl) ?_
        refine lv_dup2_11 hx hb d_Plan_raiseWorths_15 rfl rfl ?_
        refine hw_lald (f := LP2_2) hx hb hK hP 3 1 rfl rfl (by decide) (by omega) d_Plan_raiseWorths_16 ?_
        refine lv_lconst (v := 0) hx hb d_Plan_raiseWorths_17 (by decide) ?_
        refine lv_lload_n hx hb d_Plan_raiseWorths_18 rfl (lv_at hl 1 rfl) ?_
        refine lv_aload_n hx hb d_Plan_raiseWorths_19 rfl (lv_at hl 0 rfl) ?_
        refine va_get (D := (dC, dI)) (ci := 0) (v := .ref (aP 5)) (C := R_Plan) (T := T_Plan) (N := 12) hx hb hG in_Plan hown hK hP 0 rfl rfl 7 (by decide) (hG _ m_138) (fun _ h9 => h9) rfl d_Plan_raiseWorths_20 ?_
        refine lv_iload_n hx hb d_Plan_raiseWorths_23 rfl (lv_at hl 2 rfl) ?_
        refine hw_lald (f := LP4) hx hb hK hP 5 1 rfl rfl (by decide) (by omega) d_Plan_raiseWorths_24 ?_
        refine lv_ldc2 (v := 32) hx hb hown (hG _ m_348) d_Plan_raiseWorths_25 ?_
        refine lv_ldiv hx hb d_Plan_raiseWorths_28 (by decide) ?_
        refine lv_lsub hx hb d_Plan_raiseWorths_29 ?_
        refine hw_mmax hx hb (hml.trans hl.1.symm) hown (hG _ m_418) (hG _ m_419) (hG _ m_12) (hG _ m_420) (Nat.le_of_ble_eq_true rfl) (Nat.le_of_ble_eq_true rfl) (Nat.zero_le _) (Nat.zero_le _) d_Plan_raiseWorths_30 ?_
        refine lv_ladd hx hb d_Plan_raiseWorths_33 ?_
        refine hw_last (f := LP2_2) hx hb hK hP hD hS 3 1 rfl rfl (by decide) (by omega) d_Plan_raiseWorths_34 (fun H locs hP hD hS => ?_)
        have hP : va_P (dC, dI) vwCl (w_P cI cJ cZ aP VP0 VP1 VP2 NP0 LP0 LP1 (vp_updL LP2_2 x3_2 ((LP2_2 x3_2) + (hh_max 0 (x1 - ((LP4 x3_2) / 32))))) LP3 LP4 IP0 IP1 aS ++ w_S cI cJ cZ aS VS0 VS1 VS2 NS0 NS1 NS2 LS0 LS1 LS2 LS3 LS4 LS5 LS6 LS7 LS8 IS0 aY ++ w_Y cI cJ cZ aY VY0 LY0 LY1 LY2 IY0) H := hP
        have hD : va_D A (w_P cI cJ cZ aP VP0 VP1 VP2 NP0 LP0 LP1 (vp_updL LP2_2 x3_2 ((LP2_2 x3_2) + (hh_max 0 (x1 - ((LP4 x3_2) / 32))))) LP3 LP4 IP0 IP1 aS ++ w_S cI cJ cZ aS VS0 VS1 VS2 NS0 NS1 NS2 LS0 LS1 LS2 LS3 LS4 LS5 LS6 LS7 LS8 IS0 aY ++ w_Y cI cJ cZ aY VY0 LY0 LY1 LY2 IY0) := hD
        refine lv_iinc (v := nI (x3_2 + 1)) (lv' := [(3, .int (nI (x3_2 + 1))), (0, .ref (aP 0)), (1, .long x1)]) hx hb d_Plan_raiseWorths_35 hl (k := 2) rfl (hw_inc _ 1) (by decide) rfl (fun ls hl => ?_)
        refine lv_goto (tgt := 2) hx hb d_Plan_raiseWorths_38 (by decide) ?_
        rw [hrec_2] at hR
        exact ih_2 (x3_2 + 1) (vp_updL LP2_2 x3_2 ((LP2_2 x3_2) + (hh_max 0 (x1 - ((LP4 x3_2) / 32))))) (by first | assumption | omega | exact hw_upb (by assumption) (by omega)) (by omega) H locs hP hD hS ls (lv_sub hl [1, 2, 0] rfl) hR
  exact L_2 13 0 LP2 (by first | assumption | omega | exact hw_upb (by assumption) (by omega)) (by omega) H locs hP hD hS ls (lv_sub hl [1, 2, 0] rfl) hR
def f_Plan_clear_h101B (VS2 : Nat) (VS0 : Nat) (NS0 : Nat → Nat) (NS1 : Nat → Nat) (NS2 : Nat → Nat) (IS0 : Nat → Int32) (x2_58 : Nat) (LS1 : Nat → Int64) (LS2 : Nat → Int64) (LS3 : Nat → Int64) (LS5 : Nat → Int64) (VY0 : Nat) (LY0 : Nat → Int64) (LY1 : Nat → Int64) (LY2 : Nat → Int64) (IY0 : Nat → Int32) (x1 : Int32) (k_101 : (Nat) → (Nat → Int64) → (Nat) × (Nat) × (Nat → Int64) × (Nat → Int64) × (Nat → Int64) × (Nat → Int64)) (rec_101 : (Nat) → (Nat → Int64) → (Nat) × (Nat) × (Nat → Int64) × (Nat → Int64) × (Nat → Int64) × (Nat → Int64)) (x4_101 : Nat) (LP0_101 : Nat → Int64) : (Nat) × (Nat) × (Nat → Int64) × (Nat → Int64) × (Nat → Int64) × (Nat → Int64) :=
  if VS2 ≤ x4_101 then (k_101 x4_101 LP0_101) else (hh_bind (f_Site_serves VS0 NS0 NS1 NS2 IS0 x2_58 x4_101) (fun y117 => if y117 = 0 then (rec_101 (x4_101 + 1) LP0_101) else (hh_bind (f_Site_unitPrice VS0 NS2 LS1 LS2 LS3 LS5 VY0 LY0 LY1 LY2 IY0 x2_58 x4_101 x1) (fun y139 => rec_101 (x4_101 + 1) (vp_updL LP0_101 ((x2_58 * 9) + x4_101) y139)))))
def f_Plan_clear_h101 (VS2 : Nat) (VS0 : Nat) (NS0 : Nat → Nat) (NS1 : Nat → Nat) (NS2 : Nat → Nat) (IS0 : Nat → Int32) (x2_58 : Nat) (LS1 : Nat → Int64) (LS2 : Nat → Int64) (LS3 : Nat → Int64) (LS5 : Nat → Int64) (VY0 : Nat) (LY0 : Nat → Int64) (LY1 : Nat → Int64) (LY2 : Nat → Int64) (IY0 : Nat → Int32) (x1 : Int32) (k_101 : (Nat) → (Nat → Int64) → (Nat) × (Nat) × (Nat → Int64) × (Nat → Int64) × (Nat → Int64) × (Nat → Int64)) : Nat → (Nat) → (Nat → Int64) → (Nat) × (Nat) × (Nat → Int64) × (Nat → Int64) × (Nat → Int64) × (Nat → Int64)
  | 0, x4_101, LP0_101 => k_101 x4_101 LP0_101
  | n + 1, x4_101, LP0_101 => f_Plan_clear_h101B VS2 VS0 NS0 NS1 NS2 IS0 x2_58 LS1 LS2 LS3 LS5 VY0 LY0 LY1 LY2 IY0 x1 k_101 (fun x4_101 LP0_101 => f_Plan_clear_h101 VS2 VS0 NS0 NS1 NS2 IS0 x2_58 LS1 LS2 LS3 LS5 VY0 LY0 LY1 LY2 IY0 x1 k_101 n x4_101 LP0_101) x4_101 LP0_101
def f_Plan_clear_x101 (rec_58 : (Nat) → (Nat → Int64) → (Nat → Int64) → (Nat) × (Nat) × (Nat → Int64) × (Nat → Int64) × (Nat → Int64) × (Nat → Int64)) (x2_58 : Nat) (LP1_58 : Nat → Int64) (y94 : Int64) (x4_101 : Nat) (LP0_101 : Nat → Int64) : (Nat) × (Nat) × (Nat → Int64) × (Nat → Int64) × (Nat → Int64) × (Nat → Int64) :=
  rec_58 (x2_58 + 1) LP0_101 (vp_updL LP1_58 ((x2_58 * 9) + 8) y94)
def f_Plan_clear_h58B (y5 : Nat) (VS0 : Nat) (NS0 : Nat → Nat) (LS0 : Nat → Int64) (LS6 : Nat → Int64) (LS7 : Nat → Int64) (VS2 : Nat) (NS1 : Nat → Nat) (NS2 : Nat → Nat) (IS0 : Nat → Int32) (LS1 : Nat → Int64) (LS2 : Nat → Int64) (LS3 : Nat → Int64) (LS5 : Nat → Int64) (VY0 : Nat) (LY0 : Nat → Int64) (LY1 : Nat → Int64) (LY2 : Nat → Int64) (IY0 : Nat → Int32) (x1 : Int32) (k_58 : (Nat) → (Nat → Int64) → (Nat → Int64) → (Nat) × (Nat) × (Nat → Int64) × (Nat → Int64) × (Nat → Int64) × (Nat → Int64)) (rec_58 : (Nat) → (Nat → Int64) → (Nat → Int64) → (Nat) × (Nat) × (Nat → Int64) × (Nat → Int64) × (Nat → Int64) × (Nat → Int64)) (x2_58 : Nat) (LP0_58 : Nat → Int64) (LP1_58 : Nat → Int64) : (Nat) × (Nat) × (Nat → Int64) × (Nat → Int64) × (Nat → Int64) × (Nat → Int64) :=
  if y5 ≤ x2_58 then (k_58 x2_58 LP0_58 LP1_58) else (hh_bind (f_Site_capacity VS0 NS0 LS0 LS6 LS7 x2_58) (fun y94 => f_Plan_clear_h101 VS2 VS0 NS0 NS1 NS2 IS0 x2_58 LS1 LS2 LS3 LS5 VY0 LY0 LY1 LY2 IY0 x1 (f_Plan_clear_x101 rec_58 x2_58 LP1_58 y94) 9 0 (vp_updL LP0_58 ((x2_58 * 9) + 8) 0)))
def f_Plan_clear_h58 (y5 : Nat) (VS0 : Nat) (NS0 : Nat → Nat) (LS0 : Nat → Int64) (LS6 : Nat → Int64) (LS7 : Nat → Int64) (VS2 : Nat) (NS1 : Nat → Nat) (NS2 : Nat → Nat) (IS0 : Nat → Int32) (LS1 : Nat → Int64) (LS2 : Nat → Int64) (LS3 : Nat → Int64) (LS5 : Nat → Int64) (VY0 : Nat) (LY0 : Nat → Int64) (LY1 : Nat → Int64) (LY2 : Nat → Int64) (IY0 : Nat → Int32) (x1 : Int32) (k_58 : (Nat) → (Nat → Int64) → (Nat → Int64) → (Nat) × (Nat) × (Nat → Int64) × (Nat → Int64) × (Nat → Int64) × (Nat → Int64)) : Nat → (Nat) → (Nat → Int64) → (Nat → Int64) → (Nat) × (Nat) × (Nat → Int64) × (Nat → Int64) × (Nat → Int64) × (Nat → Int64)
  | 0, x2_58, LP0_58, LP1_58 => k_58 x2_58 LP0_58 LP1_58
  | n + 1, x2_58, LP0_58, LP1_58 => f_Plan_clear_h58B y5 VS0 NS0 LS0 LS6 LS7 VS2 NS1 NS2 IS0 LS1 LS2 LS3 LS5 VY0 LY0 LY1 LY2 IY0 x1 k_58 (fun x2_58 LP0_58 LP1_58 => f_Plan_clear_h58 y5 VS0 NS0 LS0 LS6 LS7 VS2 NS1 NS2 IS0 LS1 LS2 LS3 LS5 VY0 LY0 LY1 LY2 IY0 x1 k_58 n x2_58 LP0_58 LP1_58) x2_58 LP0_58 LP1_58
def f_Plan_clear_x58 (y5 : Nat) (VS2 : Nat) (LP2 : Nat → Int64) (LP3 : Nat → Int64) (x2_58 : Nat) (LP0_58 : Nat → Int64) (LP1_58 : Nat → Int64) : (Nat) × (Nat) × (Nat → Int64) × (Nat → Int64) × (Nat → Int64) × (Nat → Int64) :=
  (y5, VS2, LP0_58, LP1_58, hh_fillJ 12 LP2 0, hh_fillJ 9 LP3 0)
def f_Plan_clear (LP0 : Nat → Int64) (LP1 : Nat → Int64) (LP2 : Nat → Int64) (LP3 : Nat → Int64) (VS0 : Nat) (VS1 : Nat) (VS2 : Nat) (NS0 : Nat → Nat) (NS1 : Nat → Nat) (NS2 : Nat → Nat) (LS0 : Nat → Int64) (LS1 : Nat → Int64) (LS2 : Nat → Int64) (LS3 : Nat → Int64) (LS5 : Nat → Int64) (LS6 : Nat → Int64) (LS7 : Nat → Int64) (IS0 : Nat → Int32) (VY0 : Nat) (LY0 : Nat → Int64) (LY1 : Nat → Int64) (LY2 : Nat → Int64) (IY0 : Nat → Int32) (x1 : Int32) : (Nat) × (Nat) × (Nat → Int64) × (Nat → Int64) × (Nat → Int64) × (Nat → Int64) :=
  hh_bind (f_Site_sources VS0 VS1) (fun y5 => f_Plan_clear_h58 y5 VS0 NS0 LS0 LS6 LS7 VS2 NS1 NS2 IS0 LS1 LS2 LS3 LS5 VY0 LY0 LY1 LY2 IY0 x1 (f_Plan_clear_x58 y5 VS2 LP2 LP3) 13 0 (hh_fillJ 108 LP0 (-1)) (hh_fillJ 108 LP1 0))
set_option maxHeartbeats 4000000 in
set_option maxRecDepth 100000 in
theorem c_Plan_clear (l : Launch) (dC : Nat → ClassId) (dI : Nat → Nat → Nat) (cI cJ cZ : ClassId) (sz : Nat) (aP : Nat → Nat) (VP0 : Nat) (VP1 : Nat) (VP2 : Nat) (NP0 : Nat → Nat) (LP0 : Nat → Int64) (LP1 : Nat → Int64) (LP2 : Nat → Int64) (LP3 : Nat → Int64) (LP4 : Nat → Int64) (IP0 : Nat → Int32) (IP1 : Nat → Int32) (aS : Nat → Nat) (VS0 : Nat) (VS1 : Nat) (VS2 : Nat) (NS0 : Nat → Nat) (NS1 : Nat → Nat) (NS2 : Nat → Nat) (LS0 : Nat → Int64) (LS1 : Nat → Int64) (LS2 : Nat → Int64) (LS3 : Nat → Int64) (LS4 : Nat → Int64) (LS5 : Nat → Int64) (LS6 : Nat → Int64) (LS7 : Nat → Int64) (LS8 : Nat → Int64) (IS0 : Nat → Int32) (aY : Nat → Nat) (VY0 : Nat) (LY0 : Nat → Int64) (LY1 : Nat → Int64) (LY2 : Nat → Int64) (IY0 : Nat → Int32) (x1 : Int32) (hc8 : VS0 ≤ 8) (hp4 : VS1 ≤ 4) (hf8 : VS2 ≤ 8) (hy6 : VY0 ≤ 6) (hk4 : ∀ i, NS0 i < 4) (hcw : ∀ i, NS1 i < 12) (hfw : ∀ i, NS2 i < 12) : hh_Cv l y_Plan_clear u_Plan_clear ({ frames := 3, cells := 0, slots := 0, locals := 81 }) (dC, dI) vwCl [(cI, .int), (cJ, .long), (cZ, .boolean)] (w_P cI cJ cZ aP VP0 VP1 VP2 NP0 LP0 LP1 LP2 LP3 LP4 IP0 IP1 aS ++ w_S cI cJ cZ aS VS0 VS1 VS2 NS0 NS1 NS2 LS0 LS1 LS2 LS3 LS4 LS5 LS6 LS7 LS8 IS0 aY ++ w_Y cI cJ cZ aY VY0 LY0 LY1 LY2 IY0) sz [.ref (aP 0), .int x1] (w_P cI cJ cZ aP ((f_Plan_clear LP0 LP1 LP2 LP3 VS0 VS1 VS2 NS0 NS1 NS2 LS0 LS1 LS2 LS3 LS5 LS6 LS7 IS0 VY0 LY0 LY1 LY2 IY0 x1).1) ((f_Plan_clear LP0 LP1 LP2 LP3 VS0 VS1 VS2 NS0 NS1 NS2 LS0 LS1 LS2 LS3 LS5 LS6 LS7 IS0 VY0 LY0 LY1 LY2 IY0 x1).2.1) VP2 NP0 ((f_Plan_clear LP0 LP1 LP2 LP3 VS0 VS1 VS2 NS0 NS1 NS2 LS0 LS1 LS2 LS3 LS5 LS6 LS7 IS0 VY0 LY0 LY1 LY2 IY0 x1).2.2.1) ((f_Plan_clear LP0 LP1 LP2 LP3 VS0 VS1 VS2 NS0 NS1 NS2 LS0 LS1 LS2 LS3 LS5 LS6 LS7 IS0 VY0 LY0 LY1 LY2 IY0 x1).2.2.2.1) ((f_Plan_clear LP0 LP1 LP2 LP3 VS0 VS1 VS2 NS0 NS1 NS2 LS0 LS1 LS2 LS3 LS5 LS6 LS7 IS0 VY0 LY0 LY1 LY2 IY0 x1).2.2.2.2.1) ((f_Plan_clear LP0 LP1 LP2 LP3 VS0 VS1 VS2 NS0 NS1 NS2 LS0 LS1 LS2 LS3 LS5 LS6 LS7 IS0 VY0 LY0 LY1 LY2 IY0 x1).2.2.2.2.2) LP4 IP0 IP1 aS ++ w_S cI cJ cZ aS VS0 VS1 VS2 NS0 NS1 NS2 LS0 LS1 LS2 LS3 LS4 LS5 LS6 LS7 LS8 IS0 aY ++ w_Y cI cJ cZ aY VY0 LY0 LY1 LY2 IY0) 0 0 := by
  unfold hh_Cv
  refine Met.ofW (cc := b_Plan_clear) (maxL := 5) (ret := none) (by decide) rfl ?_
  intro p e s m args below meth c s₁ B hml hv
  obtain ⟨rfl, hsz, hP, hK, hD0⟩ := hv
  have hx := B.exec
  have hb := B.bytes
  have hr := B.returns
  have hts := atoms_spec (ws := u_Plan_clear) B.pre
  have hG : ∀ w ∈ wG, w.before ([.ref (aP 0), .int x1]).toArray s = true := fun w h => hts w (List.mem_cons_of_mem _ h)
  have hown : s.vm.findClass R_Plan = some m.cls := findClass_of_methodNamed B.named
  have hlocks := B.notSynchronized
  subst hsz
  have hD := hD0.self (sz := s.heap.size)
  generalize hAe : va_A (w_P cI cJ cZ aP VP0 VP1 VP2 NP0 LP0 LP1 LP2 LP3 LP4 IP0 IP1 aS ++ w_S cI cJ cZ aS VS0 VS1 VS2 NS0 NS1 NS2 LS0 LS1 LS2 LS3 LS4 LS5 LS6 LS7 LS8 IS0 aY ++ w_Y cI cJ cZ aY VY0 LY0 LY1 LY2 IY0) s.heap.size = A at hD ⊢
  have hA : ∀ q : Nat, s.heap.size ≤ q → A q := fun q h => by rw [← hAe]; exact Or.inr h
  have hS : va_S A s.heap s.heap [] := va_S.rf
  have hl := lv_entry ([.ref (aP 0), .int x1]) (n := 5) (Nat.le_of_ble_eq_true rfl)
  rw [lg_entry_eq]
  generalize (lg_sl ([.ref (aP 0), .int x1]) ++ List.replicate (5 - (lg_sl ([.ref (aP 0), .int x1])).length) Slot.unset).toArray = ls at hl ⊢
  have hl : lv_has ls 5 [(0, .ref (aP 0)), (1, .int x1)] := hl
  generalize hR : f_Plan_clear LP0 LP1 LP2 LP3 VS0 VS1 VS2 NS0 NS1 NS2 LS0 LS1 LS2 LS3 LS5 LS6 LS7 IS0 VY0 LY0 LY1 LY2 IY0 x1 = r0
  obtain ⟨H, locs, hHe, hle⟩ : ∃ (H : Heap) (locs : List Loc), s.heap = H ∧ [] = locs := ⟨_, _, rfl, rfl⟩
  have hP : va_P (dC, dI) vwCl (w_P cI cJ cZ aP VP0 VP1 VP2 NP0 LP0 LP1 LP2 LP3 LP4 IP0 IP1 aS ++ w_S cI cJ cZ aS VS0 VS1 VS2 NS0 NS1 NS2 LS0 LS1 LS2 LS3 LS4 LS5 LS6 LS7 LS8 IS0 aY ++ w_Y cI cJ cZ aY VY0 LY0 LY1 LY2 IY0) H := by rw [← hHe]; exact hP
  have hS : va_S A s.heap H locs := by rw [← hHe, ← hle]; exact hS
  refine hw_start hHe hle ?_
  unfold f_Plan_clear at hR
  refine lv_aload_n hx hb d_Plan_clear_0 rfl (lv_at hl 0 rfl) ?_
  refine lv_aload_n hx hb d_Plan_clear_1 rfl (lv_at hl 0 rfl) ?_
  refine va_get (D := (dC, dI)) (ci := 0) (v := .ref (aS 0)) (C := R_Plan) (T := T_Plan) (N := 12) hx hb hG in_Plan hown hK hP 0 rfl rfl 0 (by decide) (hG _ m_131) (fun _ h9 => h9) rfl d_Plan_clear_2 ?_
  obtain ⟨y5, hy5, hR⟩ := hw_bind hR
  have hM := c_Site_sources l dC dI cI cJ cZ H.size aS VS0 VS1 VS2 NS0 NS1 NS2 LS0 LS1 LS2 LS3 LS4 LS5 LS6 LS7 LS8 IS0 aY VY0 LY0 LY1 LY2 IY0
  rw [hy5] at hM
  refine hw_callVi (As := []) (rest := [.ref (aP 0)]) (wr := w_P cI cJ cZ aP VP0 VP1 VP2 NP0 LP0 LP1 LP2 LP3 LP4 IP0 IP1 aS) ⟨hx, hb, hml, hown, hG⟩ hM (hw_cwV 0 hG m_380 m_292 m_293 m_2 m_294 rfl rfl (by decide +kernel) ⟨Nat.le_of_ble_eq_true rfl, Nat.le_of_ble_eq_true rfl⟩) hK hP hD hS hA [9, 10, 11, 12, 13, 14, 15, 16, 17, 18, 19, 20, 21, 22, 23, 24, 25, 26, 27] [0, 1, 2, 3, 4, 5, 6, 7, 8] rfl rfl (by decide) (by decide) (by decide) (hw_recv hK hP 9 rfl rfl) rfl hl.1 rfl (Nat.le_of_ble_eq_true rfl) d_Plan_clear_5 ⟨Nat.le_of_ble_eq_true rfl, Nat.le_of_ble_eq_true rfl⟩ (fun H locs hP hD hS => ?_)
  have hP : va_P (dC, dI) vwCl (w_P cI cJ cZ aP VP0 VP1 VP2 NP0 LP0 LP1 LP2 LP3 LP4 IP0 IP1 aS ++ w_S cI cJ cZ aS VS0 VS1 VS2 NS0 NS1 NS2 LS0 LS1 LS2 LS3 LS4 LS5 LS6 LS7 LS8 IS0 aY ++ w_Y cI cJ cZ aY VY0 LY0 LY1 LY2 IY0) H := hP
  have hD : va_D A (w_P cI cJ cZ aP VP0 VP1 VP2 NP0 LP0 LP1 LP2 LP3 LP4 IP0 IP1 aS ++ w_S cI cJ cZ aS VS0 VS1 VS2 NS0 NS1 NS2 LS0 LS1 LS2 LS3 LS4 LS5 LS6 LS7 LS8 IS0 aY ++ w_Y cI cJ cZ aY VY0 LY0 LY1 LY2 IY0) := hD
  have hs5 : y5 = VS0 + VS1 := by rw [← hy5]; rfl
  refine va_put (D := (dC, dI)) (ci := 0) (v := .int (nI y5)) (ty := .int) (C := R_Plan) (T := T_Plan) (N := 12) hx hb hG in_Plan ty_Plan tok_Plan nok_Plan hown hK hP hD hS 0 rfl rfl 1 (by decide) (hG _ m_132) (fun _ h9 => h9) rfl (by decide +kernel) rfl rfl (Nat.le_of_ble_eq_true rfl) d_Plan_clear_8 (fun H locs hP hD hS => ?_)
  have hP : va_P (dC, dI) vwCl (w_P cI cJ cZ aP y5 VP1 VP2 NP0 LP0 LP1 LP2 LP3 LP4 IP0 IP1 aS ++ w_S cI cJ cZ aS VS0 VS1 VS2 NS0 NS1 NS2 LS0 LS1 LS2 LS3 LS4 LS5 LS6 LS7 LS8 IS0 aY ++ w_Y cI cJ cZ aY VY0 LY0 LY1 LY2 IY0) H := hP
  have hD : va_D A (w_P cI cJ cZ aP y5 VP1 VP2 NP0 LP0 LP1 LP2 LP3 LP4 IP0 IP1 aS ++ w_S cI cJ cZ aS VS0 VS1 VS2 NS0 NS1 NS2 LS0 LS1 LS2 LS3 LS4 LS5 LS6 LS7 LS8 IS0 aY ++ w_Y cI cJ cZ aY VY0 LY0 LY1 LY2 IY0) := hD
  refine lv_aload_n hx hb d_Plan_clear_11 rfl (lv_at hl 0 rfl) ?_
  refine lv_aload_n hx hb d_Plan_clear_12 rfl (lv_at hl 0 rfl) ?_
  refine va_get (D := (dC, dI)) (ci := 0) (v := .ref (aS 0)) (C := R_Plan) (T := T_Plan) (N := 12) hx hb hG in_Plan hown hK hP 0 rfl rfl 0 (by decide) (hG _ m_131) (fun _ h9 => h9) rfl d_Plan_clear_13 ?_
  refine va_get (D := (dC, dI)) (ci := 2) (v := .int (nI VS2)) (C := R_Site) (T := T_Site) (N := 17) hx hb hG in_Site hown hK hP 9 rfl rfl 2 (by decide) (hG _ m_63) (fun _ h9 => h9) rfl d_Plan_clear_16 ?_
  refine va_put (D := (dC, dI)) (ci := 0) (v := .int (nI VS2)) (ty := .int) (C := R_Plan) (T := T_Plan) (N := 12) hx hb hG in_Plan ty_Plan tok_Plan nok_Plan hown hK hP hD hS 0 rfl rfl 2 (by decide) (hG _ m_133) (fun _ h9 => h9) rfl (by decide +kernel) rfl rfl (Nat.le_of_ble_eq_true rfl) d_Plan_clear_19 (fun H locs hP hD hS => ?_)
  have hP : va_P (dC, dI) vwCl (w_P cI cJ cZ aP y5 VS2 VP2 NP0 LP0 LP1 LP2 LP3 LP4 IP0 IP1 aS ++ w_S cI cJ cZ aS VS0 VS1 VS2 NS0 NS1 NS2 LS0 LS1 LS2 LS3 LS4 LS5 LS6 LS7 LS8 IS0 aY ++ w_Y cI cJ cZ aY VY0 LY0 LY1 LY2 IY0) H := hP
  have hD : va_D A (w_P cI cJ cZ aP y5 VS2 VP2 NP0 LP0 LP1 LP2 LP3 LP4 IP0 IP1 aS ++ w_S cI cJ cZ aS VS0 VS1 VS2 NS0 NS1 NS2 LS0 LS1 LS2 LS3 LS4 LS5 LS6 LS7 LS8 IS0 aY ++ w_Y cI cJ cZ aY VY0 LY0 LY1 LY2 IY0) := hD
  refine lv_aload_n hx hb d_Plan_clear_22 rfl (lv_at hl 0 rfl) ?_
  refine va_get (D := (dC, dI)) (ci := 0) (v := .ref (aP 1)) (C := R_Plan) (T := T_Plan) (N := 12) hx hb hG in_Plan hown hK hP 0 rfl rfl 3 (by decide) (hG _ m_134) (fun _ h9 => h9) rfl d_Plan_clear_23 ?_
  refine lv_ldc2 (v := (-1)) hx hb hown (hG _ m_330) d_Plan_clear_26 ?_
  have hM := c_Arrays_fillJ l dC dI cI cJ cZ H.size (aP 1) 108 (by decide) LP0 (-1)
  refine hw_callSv (As := [.ref (aP 1), .long (-1)]) (rest := []) (wr := (w_P cI cJ cZ aP y5 VS2 VP2 NP0 LP0 LP1 LP2 LP3 LP4 IP0 IP1 aS ++ w_S cI cJ cZ aS VS0 VS1 VS2 NS0 NS1 NS2 LS0 LS1 LS2 LS3 LS4 LS5 LS6 LS7 LS8 IS0 aY ++ w_Y cI cJ cZ aY VY0 LY0 LY1 LY2 IY0).eraseIdx 1) ⟨hx, hb, hml, hown, hG⟩ hM (hw_cwS 2 hG m_381 m_53 m_4 m_54 rfl rfl (by decide +kernel) ⟨Nat.le_of_ble_eq_true rfl, Nat.le_of_ble_eq_true rfl⟩) hK hP hD hS hA [1] [0, 2, 3, 4, 5, 6, 7, 8, 9, 10, 11, 12, 13, 14, 15, 16, 17, 18, 19, 20, 21, 22, 23, 24, 25, 26, 27] rfl rfl (by decide) (by decide) (by decide) rfl hl.1 rfl (Nat.le_of_ble_eq_true rfl) d_Plan_clear_29 ⟨Nat.le_of_ble_eq_true rfl, Nat.le_of_ble_eq_true rfl⟩ (fun H locs hP hD hS => ?_)
  have hP : va_P (dC, dI) vwCl (w_P cI cJ cZ aP y5 VS2 VP2 NP0 (hh_fillJ 108 LP0 (-1)) LP1 LP2 LP3 LP4 IP0 IP1 aS ++ w_S cI cJ cZ aS VS0 VS1 VS2 NS0 NS1 NS2 LS0 LS1 LS2 LS3 LS4 LS5 LS6 LS7 LS8 IS0 aY ++ w_Y cI cJ cZ aY VY0 LY0 LY1 LY2 IY0) H := hP.sub [0, 27, 1, 2, 3, 4, 5, 6, 7, 8, 9, 10, 11, 12, 13, 14, 15, 16, 17, 18, 19, 20, 21, 22, 23, 24, 25, 26] rfl
  have hD : va_D A (w_P cI cJ cZ aP y5 VS2 VP2 NP0 (hh_fillJ 108 LP0 (-1)) LP1 LP2 LP3 LP4 IP0 IP1 aS ++ w_S cI cJ cZ aS VS0 VS1 VS2 NS0 NS1 NS2 LS0 LS1 LS2 LS3 LS4 LS5 LS6 LS7 LS8 IS0 aY ++ w_Y cI cJ cZ aY VY0 LY0 LY1 LY2 IY0) := hD.sub [0, 27, 1, 2, 3, 4, 5, 6, 7, 8, 9, 10, 11, 12, 13, 14, 15, 16, 17, 18, 19, 20, 21, 22, 23, 24, 25, 26] (by decide) rfl
  refine lv_aload_n hx hb d_Plan_clear_32 rfl (lv_at hl 0 rfl) ?_
  refine va_get (D := (dC, dI)) (ci := 0) (v := .ref (aP 2)) (C := R_Plan) (T := T_Plan) (N := 12) hx hb hG in_Plan hown hK hP 0 rfl rfl 4 (by decide) (hG _ m_135) (fun _ h9 => h9) rfl d_Plan_clear_33 ?_
  refine lv_lconst (v := 0) hx hb d_Plan_clear_36 (by decide) ?_
  have hM := c_Arrays_fillJ l dC dI cI cJ cZ H.size (aP 2) 108 (by decide) LP1 0
  refine hw_callSv (As := [.ref (aP 2), .long 0]) (rest := []) (wr := (w_P cI cJ cZ aP y5 VS2 VP2 NP0 (hh_fillJ 108 LP0 (-1)) LP1 LP2 LP3 LP4 IP0 IP1 aS ++ w_S cI cJ cZ aS VS0 VS1 VS2 NS0 NS1 NS2 LS0 LS1 LS2 LS3 LS4 LS5 LS6 LS7 LS8 IS0 aY ++ w_Y cI cJ cZ aY VY0 LY0 LY1 LY2 IY0).eraseIdx 2) ⟨hx, hb, hml, hown, hG⟩ hM (hw_cwS 2 hG m_381 m_53 m_4 m_54 rfl rfl (by decide +kernel) ⟨Nat.le_of_ble_eq_true rfl, Nat.le_of_ble_eq_true rfl⟩) hK hP hD hS hA [2] [0, 1, 3, 4, 5, 6, 7, 8, 9, 10, 11, 12, 13, 14, 15, 16, 17, 18, 19, 20, 21, 22, 23, 24, 25, 26, 27] rfl rfl (by decide) (by decide) (by decide) rfl hl.1 rfl (Nat.le_of_ble_eq_true rfl) d_Plan_clear_37 ⟨Nat.le_of_ble_eq_true rfl, Nat.le_of_ble_eq_true rfl⟩ (fun H locs hP hD hS => ?_)
  have hP : va_P (dC, dI) vwCl (w_P cI cJ cZ aP y5 VS2 VP2 NP0 (hh_fillJ 108 LP0 (-1)) (hh_fillJ 108 LP1 0) LP2 LP3 LP4 IP0 IP1 aS ++ w_S cI cJ cZ aS VS0 VS1 VS2 NS0 NS1 NS2 LS0 LS1 LS2 LS3 LS4 LS5 LS6 LS7 LS8 IS0 aY ++ w_Y cI cJ cZ aY VY0 LY0 LY1 LY2 IY0) H := hP.sub [0, 1, 27, 2, 3, 4, 5, 6, 7, 8, 9, 10, 11, 12, 13, 14, 15, 16, 17, 18, 19, 20, 21, 22, 23, 24, 25, 26] rfl
  have hD : va_D A (w_P cI cJ cZ aP y5 VS2 VP2 NP0 (hh_fillJ 108 LP0 (-1)) (hh_fillJ 108 LP1 0) LP2 LP3 LP4 IP0 IP1 aS ++ w_S cI cJ cZ aS VS0 VS1 VS2 NS0 NS1 NS2 LS0 LS1 LS2 LS3 LS4 LS5 LS6 LS7 LS8 IS0 aY ++ w_Y cI cJ cZ aY VY0 LY0 LY1 LY2 IY0) := hD.sub [0, 1, 27, 2, 3, 4, 5, 6, 7, 8, 9, 10, 11, 12, 13, 14, 15, 16, 17, 18, 19, 20, 21, 22, 23, 24, 25, 26] (by decide) rfl
  refine lv_aload_n hx hb d_Plan_clear_40 rfl (lv_at hl 0 rfl) ?_
  refine va_get (D := (dC, dI)) (ci := 0) (v := .ref (aP 3)) (C := R_Plan) (T := T_Plan) (N := 12) hx hb hG in_Plan hown hK hP 0 rfl rfl 5 (by decide) (hG _ m_136) (fun _ h9 => h9) rfl d_Plan_clear_41 ?_
  refine lv_lconst (v := 0) hx hb d_Plan_clear_44 (by decide) ?_
  have hM := c_Arrays_fillJ l dC dI cI cJ cZ H.size (aP 3) 12 (by decide) LP2 0
  refine hw_callSv (As := [.ref (aP 3), .long 0]) (rest := []) (wr := (w_P cI cJ cZ aP y5 VS2 VP2 NP0 (hh_fillJ 108 LP0 (-1)) (hh_fillJ 108 LP1 0) LP2 LP3 LP4 IP0 IP1 aS ++ w_S cI cJ cZ aS VS0 VS1 VS2 NS0 NS1 NS2 LS0 LS1 LS2 LS3 LS4 LS5 LS6 LS7 LS8 IS0 aY ++ w_Y cI cJ cZ aY VY0 LY0 LY1 LY2 IY0).eraseIdx 3) ⟨hx, hb, hml, hown, hG⟩ hM (hw_cwS 2 hG m_381 m_53 m_4 m_54 rfl rfl (by decide +kernel) ⟨Nat.le_of_ble_eq_true rfl, Nat.le_of_ble_eq_true rfl⟩) hK hP hD hS hA [3] [0, 1, 2, 4, 5, 6, 7, 8, 9, 10, 11, 12, 13, 14, 15, 16, 17, 18, 19, 20, 21, 22, 23, 24, 25, 26, 27] rfl rfl (by decide) (by decide) (by decide) rfl hl.1 rfl (Nat.le_of_ble_eq_true rfl) d_Plan_clear_45 ⟨Nat.le_of_ble_eq_true rfl, Nat.le_of_ble_eq_true rfl⟩ (fun H locs hP hD hS => ?_)
  have hP : va_P (dC, dI) vwCl (w_P cI cJ cZ aP y5 VS2 VP2 NP0 (hh_fillJ 108 LP0 (-1)) (hh_fillJ 108 LP1 0) (hh_fillJ 12 LP2 0) LP3 LP4 IP0 IP1 aS ++ w_S cI cJ cZ aS VS0 VS1 VS2 NS0 NS1 NS2 LS0 LS1 LS2 LS3 LS4 LS5 LS6 LS7 LS8 IS0 aY ++ w_Y cI cJ cZ aY VY0 LY0 LY1 LY2 IY0) H := hP.sub [0, 1, 2, 27, 3, 4, 5, 6, 7, 8, 9, 10, 11, 12, 13, 14, 15, 16, 17, 18, 19, 20, 21, 22, 23, 24, 25, 26] rfl
  have hD : va_D A (w_P cI cJ cZ aP y5 VS2 VP2 NP0 (hh_fillJ 108 LP0 (-1)) (hh_fillJ 108 LP1 0) (hh_fillJ 12 LP2 0) LP3 LP4 IP0 IP1 aS ++ w_S cI cJ cZ aS VS0 VS1 VS2 NS0 NS1 NS2 LS0 LS1 LS2 LS3 LS4 LS5 LS6 LS7 LS8 IS0 aY ++ w_Y cI cJ cZ aY VY0 LY0 LY1 LY2 IY0) := hD.sub [0, 1, 2, 27, 3, 4, 5, 6, 7, 8, 9, 10, 11, 12, 13, 14, 15, 16, 17, 18, 19, 20, 21, 22, 23, 24, 25, 26] (by decide) rfl
  refine lv_aload_n hx hb d_Plan_clear_48 rfl (lv_at hl 0 rfl) ?_
  refine va_get (D := (dC, dI)) (ci := 0) (v := .ref (aP 4)) (C := R_Plan) (T := T_Plan) (N := 12) hx hb hG in_Plan hown hK hP 0 rfl rfl 6 (by decide) (hG _ m_137) (fun _ h9 => h9) rfl d_Plan_clear_49 ?_
  refine lv_lconst (v := 0) hx hb d_Plan_clear_52 (by decide) ?_
  have hM := c_Arrays_fillJ l dC dI cI cJ cZ H.size (aP 4) 9 (by decide) LP3 0
  refine hw_callSv (As := [.ref (aP 4), .long 0]) (rest := []) (wr := (w_P cI cJ cZ aP y5 VS2 VP2 NP0 (hh_fillJ 108 LP0 (-1)) (hh_fillJ 108 LP1 0) (hh_fillJ 12 LP2 0) LP3 LP4 IP0 IP1 aS ++ w_S cI cJ cZ aS VS0 VS1 VS2 NS0 NS1 NS2 LS0 LS1 LS2 LS3 LS4 LS5 LS6 LS7 LS8 IS0 aY ++ w_Y cI cJ cZ aY VY0 LY0 LY1 LY2 IY0).eraseIdx 4) ⟨hx, hb, hml, hown, hG⟩ hM (hw_cwS 2 hG m_381 m_53 m_4 m_54 rfl rfl (by decide +kernel) ⟨Nat.le_of_ble_eq_true rfl, Nat.le_of_ble_eq_true rfl⟩) hK hP hD hS hA [4] [0, 1, 2, 3, 5, 6, 7, 8, 9, 10, 11, 12, 13, 14, 15, 16, 17, 18, 19, 20, 21, 22, 23, 24, 25, 26, 27] rfl rfl (by decide) (by decide) (by decide) rfl hl.1 rfl (Nat.le_of_ble_eq_true rfl) d_Plan_clear_53 ⟨Nat.le_of_ble_eq_true rfl, Nat.le_of_ble_eq_true rfl⟩ (fun H locs hP hD hS => ?_)
  have hP : va_P (dC, dI) vwCl (w_P cI cJ cZ aP y5 VS2 VP2 NP0 (hh_fillJ 108 LP0 (-1)) (hh_fillJ 108 LP1 0) (hh_fillJ 12 LP2 0) (hh_fillJ 9 LP3 0) LP4 IP0 IP1 aS ++ w_S cI cJ cZ aS VS0 VS1 VS2 NS0 NS1 NS2 LS0 LS1 LS2 LS3 LS4 LS5 LS6 LS7 LS8 IS0 aY ++ w_Y cI cJ cZ aY VY0 LY0 LY1 LY2 IY0) H := hP.sub [0, 1, 2, 3, 27, 4, 5, 6, 7, 8, 9, 10, 11, 12, 13, 14, 15, 16, 17, 18, 19, 20, 21, 22, 23, 24, 25, 26] rfl
  have hD : va_D A (w_P cI cJ cZ aP y5 VS2 VP2 NP0 (hh_fillJ 108 LP0 (-1)) (hh_fillJ 108 LP1 0) (hh_fillJ 12 LP2 0) (hh_fillJ 9 LP3 0) LP4 IP0 IP1 aS ++ w_S cI cJ cZ aS VS0 VS1 VS2 NS0 NS1 NS2 LS0 LS1 LS2 LS3 LS4 LS5 LS6 LS7 LS8 IS0 aY ++ w_Y cI cJ cZ aY VY0 LY0 LY1 LY2 IY0) := hD.sub [0, 1, 2, 3, 27, 4, 5, 6, 7, 8, 9, 10, 11, 12, 13, 14, 15, 16, 17, 18, 19, 20, 21, 22, 23, 24, 25, 26] (by decide) rfl
  refine lv_iconst (v := nI 0) hx hb d_Plan_clear_56 (by decide) ?_
  refine lv_istore_n (lv' := [(2, .int (nI 0)), (0, .ref (aP 0)), (1, .int x1)]) hx hb d_Plan_clear_57 rfl hl (by decide) rfl (fun ls hl => ?_)
  obtain ⟨k_58, hk_58, hR⟩ : ∃ k, (f_Plan_clear_x58 y5 VS2 LP2 LP3) = k ∧ f_Plan_clear_h58 y5 VS0 NS0 LS0 LS6 LS7 VS2 NS1 NS2 IS0 LS1 LS2 LS3 LS5 VY0 LY0 LY1 LY2 IY0 x1 k 13 0 (hh_fillJ 108 LP0 (-1)) (hh_fillJ 108 LP1 0) = r0 := ⟨_, rfl, hR⟩
  have X_58 : ∀ (x2_58 : Nat) (LP0_58 : Nat → Int64) (LP1_58 : Nat → Int64) (hi : x2_58 ≤ VS0 + VS1) (H : Heap) (locs : List Loc) (hP : va_P (dC, dI) vwCl (w_P cI cJ cZ aP y5 VS2 VP2 NP0 LP0_58 LP1_58 (hh_fillJ 12 LP2 0) (hh_fillJ 9 LP3 0) LP4 IP0 IP1 aS ++ w_S cI cJ cZ aS VS0 VS1 VS2 NS0 NS1 NS2 LS0 LS1 LS2 LS3 LS4 LS5 LS6 LS7 LS8 IS0 aY ++ w_Y cI cJ cZ aY VY0 LY0 LY1 LY2 IY0) H) (hD : va_D A (w_P cI cJ cZ aP y5 VS2 VP2 NP0 LP0_58 LP1_58 (hh_fillJ 12 LP2 0) (hh_fillJ 9 LP3 0) LP4 IP0 IP1 aS ++ w_S cI cJ cZ aS VS0 VS1 VS2 NS0 NS1 NS2 LS0 LS1 LS2 LS3 LS4 LS5 LS6 LS7 LS8 IS0 aY ++ w_Y cI cJ cZ aY VY0 LY0 LY1 LY2 IY0)) (hS : va_S A s.heap H locs) (ls : Array Slot) (hl : lv_has ls 5 [(0, .ref (aP 0)), (1, .int x1), (2, .int (nI x2_58))]) (hR : k_58 x2_58 LP0_58 LP1_58 = r0), W p l e (headSpec u_Plan_clear ({ frames := 3, cells := 0, slots := 0, locals := 81 })).room s m ([.ref (aP 0), .int x1]).toArray below meth c H locs 0 0 (hh_Zv below (dC, dI) vwCl [(cI, .int), (cJ, .long), (cZ, .boolean)] A (w_P cI cJ cZ aP r0.1 r0.2.1 VP2 NP0 r0.2.2.1 r0.2.2.2.1 r0.2.2.2.2.1 r0.2.2.2.2.2 LP4 IP0 IP1 aS ++ w_S cI cJ cZ aS VS0 VS1 VS2 NS0 NS1 NS2 LS0 LS1 LS2 LS3 LS4 LS5 LS6 LS7 LS8 IS0 aY ++ w_Y cI cJ cZ aY VY0 LY0 LY1 LY2 IY0) ([.ref (aP 0), .int x1]).toArray s) (F0 m 155 ls []) := by
    intro x2_58 LP0_58 LP1_58 hi H locs hP hD hS ls hl hR
    rw [← hk_58] at hR
    unfold f_Plan_clear_x58 at hR
    subst hR
    exact W.vret hx hb hr (fun t ht hW => ⟨⟨(), rfl, trivial, by rw [ht]; exact hP, va_K.moved hW.alike hK, hD⟩, hS.F ht⟩) hS.2.2 d_Plan_clear_155
  have L_58 : ∀ (n : Nat) (x2_58 : Nat) (LP0_58 : Nat → Int64) (LP1_58 : Nat → Int64) (hi : x2_58 ≤ VS0 + VS1) (hfu : VS0 + VS1 - x2_58 < n) (H : Heap) (locs : List Loc) (hP : va_P (dC, dI) vwCl (w_P cI cJ cZ aP y5 VS2 VP2 NP0 LP0_58 LP1_58 (hh_fillJ 12 LP2 0) (hh_fillJ 9 LP3 0) LP4 IP0 IP1 aS ++ w_S cI cJ cZ aS VS0 VS1 VS2 NS0 NS1 NS2 LS0 LS1 LS2 LS3 LS4 LS5 LS6 LS7 LS8 IS0 aY ++ w_Y cI cJ cZ aY VY0 LY0 LY1 LY2 IY0) H) (hD : va_D A (w_P cI cJ cZ aP y5 VS2 VP2 NP0 LP0_58 LP1_58 (hh_fillJ 12 LP2 0) (hh_fillJ 9 LP3 0) LP4 IP0 IP1 aS ++ w_S cI cJ cZ aS VS0 VS1 VS2 NS0 NS1 NS2 LS0 LS1 LS2 LS3 LS4 LS5 LS6 LS7 LS8 IS0 aY ++ w_Y cI cJ cZ aY VY0 LY0 LY1 LY2 IY0)) (hS : va_S A s.heap H locs) (ls : Array Slot) (hl : lv_has ls 5 [(0, .ref (aP 0)), (1, .int x1), (2, .int (nI x2_58))]) (hR : f_Plan_clear_h58 y5 VS0 NS0 LS0 LS6 LS7 VS2 NS1 NS2 IS0 LS1 LS2 LS3 LS5 VY0 LY0 LY1 LY2 IY0 x1 k_58 n x2_58 LP0_58 LP1_58 = r0), W p l e (headSpec u_Plan_clear ({ frames := 3, cells := 0, slots := 0, locals := 81 })).room s m ([.ref (aP 0), .int x1]).toArray below meth c H locs 0 0 (hh_Zv below (dC, dI) vwCl [(cI, .int), (cJ, .long), (cZ, .boolean)] A (w_P cI cJ cZ aP r0.1 r0.2.1 VP2 NP0 r0.2.2.1 r0.2.2.2.1 r0.2.2.2.2.1 r0.2.2.2.2.2 LP4 IP0 IP1 aS ++ w_S cI cJ cZ aS VS0 VS1 VS2 NS0 NS1 NS2 LS0 LS1 LS2 LS3 LS4 LS5 LS6 LS7 LS8 IS0 aY ++ w_Y cI cJ cZ aY VY0 LY0 LY1 LY2 IY0) ([.ref (aP 0), .int x1]).toArray s) (F0 m 58 ls []) := by
    intro n
    induction n with
    | zero =>
      intro x2_58 LP0_58 LP1_58 hi hfu H locs hP hD hS ls hl hR
      exact absurd hfu (Nat.not_lt_zero _)
    | succ n ih_58 =>
      intro x2_58 LP0_58 LP1_58 hi hfu H locs hP hD hS ls hl hR
      rw [f_Plan_clear_h58] at hR
      obtain ⟨rec_58, hrec_58, hR⟩ : ∃ r, r = _ ∧ f_Plan_clear_h58B y5 VS0 NS0 LS0 LS6 LS7 VS2 NS1 NS2 IS0 LS1 LS2 LS3 LS5 VY0 LY0 LY1 LY2 IY0 x1 k_58 r x2_58 LP0_58 LP1_58 = r0 := ⟨_, rfl, hR⟩
      unfold f_Plan_clear_h58B at hR
      refine lv_iload_n hx hb d_Plan_clear_58 rfl (lv_at hl 2 rfl) ?_
      refine lv_aload_n hx hb d_Plan_clear_59 rfl (lv_at hl 0 rfl) ?_
      refine va_get (D := (dC, dI)) (ci := 0) (v := .int (nI y5)) (C := R_Plan) (T := T_Plan) (N := 12) hx hb hG in_Plan hown hK hP 0 rfl rfl 1 (by decide) (hG _ m_132) (fun _ h9 => h9) rfl d_Plan_clear_60 ?_
      refine hw_icmp_ge (tgt := 155) hx hb d_Plan_clear_63 (by decide) (by omega) (by omega) (fun c63 => ?_) (fun c63 => ?_)
      · replace hR := (if_pos c63).symm.trans hR
        exact X_58 x2_58 LP0_58 LP1_58 (by first | assumption | omega | exact hw_upb (by assumption) (by omega)) H locs hP hD hS ls (lv_sub hl [0, 1, 2] rfl) hR
      · replace hR := (if_neg c63).symm.trans hR
        refine lv_iload_n hx hb d_Plan_clear_66 rfl (lv_at hl 2 rfl) ?_
        refine lv_bipush (v := nI 9) hx hb d_Plan_clear_67 (by decide) ?_
        refine hw_imul hx hb d_Plan_clear_69 ?_
        refine lv_istore_n (lv' := [(3, .int (nI (x2_58 * 9))), (0, .ref (aP 0)), (1, .int x1), (2, .int (nI x2_58))]) hx hb d_Plan_clear_70 rfl hl (by decide) rfl (fun ls hl => ?_)
        refine lv_aload_n hx hb d_Plan_clear_71 rfl (lv_at hl 1 rfl) ?_
        refine va_get (D := (dC, dI)) (ci := 0) (v := .ref (aP 1)) (C := R_Plan) (T := T_Plan) (N := 12) hx hb hG in_Plan hown hK hP 0 rfl rfl 3 (by decide) (hG _ m_134) (fun _ h9 => h9) rfl d_Plan_clear_72 ?_
        refine lv_iload_n hx hb d_Plan_clear_75 rfl (lv_at hl 0 rfl) ?_
        refine lv_bipush (v := nI 8) hx hb d_Plan_clear_76 (by decide) ?_
        refine hw_iadd hx hb d_Plan_clear_78 ?_
        refine lv_lconst (v := 0) hx hb d_Plan_clear_79 (by decide) ?_
        refine hw_last (f := LP0_58) hx hb hK hP hD hS 1 1 rfl rfl (by decide) (by omega) d_Plan_clear_80 (fun H locs hP hD hS => ?_)
        have hP : va_P (dC, dI) vwCl (w_P cI cJ cZ aP y5 VS2 VP2 NP0 (vp_updL LP0_58 ((x2_58 * 9) + 8) 0) LP1_58 (hh_fillJ 12 LP2 0) (hh_fillJ 9 LP3 0) LP4 IP0 IP1 aS ++ w_S cI cJ cZ aS VS0 VS1 VS2 NS0 NS1 NS2 LS0 LS1 LS2 LS3 LS4 LS5 LS6 LS7 LS8 IS0 aY ++ w_Y cI cJ cZ aY VY0 LY0 LY1 LY2 IY0) H := hP
        have hD : va_D A (w_P cI cJ cZ aP y5 VS2 VP2 NP0 (vp_updL LP0_58 ((x2_58 * 9) + 8) 0) LP1_58 (hh_fillJ 12 LP2 0) (hh_fillJ 9 LP3 0) LP4 IP0 IP1 aS ++ w_S cI cJ cZ aS VS0 VS1 VS2 NS0 NS1 NS2 LS0 LS1 LS2 LS3 LS4 LS5 LS6 LS7 LS8 IS0 aY ++ w_Y cI cJ cZ aY VY0 LY0 LY1 LY2 IY0) := hD
        refine lv_aload_n hx hb d_Plan_clear_81 rfl (lv_at hl 1 rfl) ?_
        refine va_get (D := (dC, dI)) (ci := 0) (v := .ref (aP 2)) (C := R_Plan) (T := T_Plan) (N := 12) hx hb hG in_Plan hown hK hP 0 rfl rfl 4 (by decide) (hG _ m_135) (fun _ h9 => h9) rfl d_Plan_clear_82 ?_
        refine lv_iload_n hx hb d_Plan_clear_85 rfl (lv_at hl 0 rfl) ?_
        refine lv_bipush (v := nI 8) hx hb d_Plan_clear_86 (by decide) ?_
        refine hw_iadd hx hb d_Plan_clear_88 ?_
        refine lv_aload_n hx hb d_Plan_clear_89 rfl (lv_at hl 1 rfl) ?_
        refine va_get (D := (dC, dI)) (ci := 0) (v := .ref (aS 0)) (C := R_Plan) (T := T_Plan) (N := 12) hx hb hG in_Plan hown hK hP 0 rfl rfl 0 (by decide) (hG _ m_131) (fun _ h9 => h9) rfl d_Plan_clear_90 ?_
        refine lv_iload_n hx hb d_Plan_clear_93 rfl (lv_at hl 3 rfl) ?_
        obtain ⟨y94, hy94, hR⟩ := hw_bind hR
        have hM := c_Site_capacity l dC dI cI cJ cZ H.size aS VS0 VS1 VS2 NS0 NS1 NS2 LS0 LS1 LS2 LS3 LS4 LS5 LS6 LS7 LS8 IS0 aY VY0 LY0 LY1 LY2 IY0 x2_58 (by first | assumption | omega) (by first | assumption | omega) (by first | assumption | omega)
        rw [hy94] at hM
        refine hw_callVl (As := [.int (nI x2_58)]) (rest := [.int (nI ((x2_58 * 9) + 8)), .ref (aP 2)]) (wr := w_P cI cJ cZ aP y5 VS2 VP2 NP0 (vp_updL LP0_58 ((x2_58 * 9) + 8) 0) LP1_58 (hh_fillJ 12 LP2 0) (hh_fillJ 9 LP3 0) LP4 IP0 IP1 aS) ⟨hx, hb, hml, hown, hG⟩ hM (hw_cwV 1 hG m_382 m_383 m_384 m_2 m_385 rfl rfl (by decide +kernel) ⟨Nat.le_of_ble_eq_true rfl, Nat.le_of_ble_eq_true rfl⟩) hK hP hD hS hA [9, 10, 11, 12, 13, 14, 15, 16, 17, 18, 19, 20, 21, 22, 23, 24, 25, 26, 27] [0, 1, 2, 3, 4, 5, 6, 7, 8] rfl rfl (by decide) (by decide) (by decide) (hw_recv hK hP 9 rfl rfl) rfl hl.1 rfl (Nat.le_of_ble_eq_true rfl) d_Plan_clear_94 ⟨Nat.le_of_ble_eq_true rfl, Nat.le_of_ble_eq_true rfl⟩ (fun H locs hP hD hS => ?_)
        have hP : va_P (dC, dI) vwCl (w_P cI cJ cZ aP y5 VS2 VP2 NP0 (vp_updL LP0_58 ((x2_58 * 9) + 8) 0) LP1_58 (hh_fillJ 12 LP2 0) (hh_fillJ 9 LP3 0) LP4 IP0 IP1 aS ++ w_S cI cJ cZ aS VS0 VS1 VS2 NS0 NS1 NS2 LS0 LS1 LS2 LS3 LS4 LS5 LS6 LS7 LS8 IS0 aY ++ w_Y cI cJ cZ aY VY0 LY0 LY1 LY2 IY0) H := hP
        have hD : va_D A (w_P cI cJ cZ aP y5 VS2 VP2 NP0 (vp_updL LP0_58 ((x2_58 * 9) + 8) 0) LP1_58 (hh_fillJ 12 LP2 0) (hh_fillJ 9 LP3 0) LP4 IP0 IP1 aS ++ w_S cI cJ cZ aS VS0 VS1 VS2 NS0 NS1 NS2 LS0 LS1 LS2 LS3 LS4 LS5 LS6 LS7 LS8 IS0 aY ++ w_Y cI cJ cZ aY VY0 LY0 LY1 LY2 IY0) := hD
        refine hw_last (f := LP1_58) hx hb hK hP hD hS 2 1 rfl rfl (by decide) (by omega) d_Plan_clear_97 (fun H locs hP hD hS => ?_)
        have hP : va_P (dC, dI) vwCl (w_P cI cJ cZ aP y5 VS2 VP2 NP0 (vp_updL LP0_58 ((x2_58 * 9) + 8) 0) (vp_updL LP1_58 ((x2_58 * 9) + 8) y94) (hh_fillJ 12 LP2 0) (hh_fillJ 9 LP3 0) LP4 IP0 IP1 aS ++ w_S cI cJ cZ aS VS0 VS1 VS2 NS0 NS1 NS2 LS0 LS1 LS2 LS3 LS4 LS5 LS6 LS7 LS8 IS0 aY ++ w_Y cI cJ cZ aY VY0 LY0 LY1 LY2 IY0) H := hP
        have hD : va_D A (w_P cI cJ cZ aP y5 VS2 VP2 NP0 (vp_updL LP0_58 ((x2_58 * 9) + 8) 0) (vp_updL LP1_58 ((x2_58 * 9) + 8) y94) (hh_fillJ 12 LP2 0) (hh_fillJ 9 LP3 0) LP4 IP0 IP1 aS ++ w_S cI cJ cZ aS VS0 VS1 VS2 NS0 NS1 NS2 LS0 LS1 LS2 LS3 LS4 LS5 LS6 LS7 LS8 IS0 aY ++ w_Y cI cJ cZ aY VY0 LY0 LY1 LY2 IY0) := hD
        refine lv_iconst (v := nI 0) hx hb d_Plan_clear_98 (by decide) ?_
        refine lv_istore (lv' := [(4, .int (nI 0)), (3, .int (nI (x2_58 * 9))), (0, .ref (aP 0)), (1, .int x1), (2, .int (nI x2_58))]) hx hb d_Plan_clear_99 hl (by decide) rfl (fun ls hl => ?_)
        obtain ⟨k_101, hk_101, hR⟩ : ∃ k, (f_Plan_clear_x101 rec_58 x2_58 LP1_58 y94) = k ∧ f_Plan_clear_h101 VS2 VS0 NS0 NS1 NS2 IS0 x2_58 LS1 LS2 LS3 LS5 VY0 LY0 LY1 LY2 IY0 x1 k 9 0 (vp_updL LP0_58 ((x2_58 * 9) + 8) 0) = r0 := ⟨_, rfl, hR⟩
        have X_101 : ∀ (x4_101 : Nat) (LP0_101 : Nat → Int64) (hi : x4_101 ≤ VS2) (H : Heap) (locs : List Loc) (hP : va_P (dC, dI) vwCl (w_P cI cJ cZ aP y5 VS2 VP2 NP0 LP0_101 (vp_updL LP1_58 ((x2_58 * 9) + 8) y94) (hh_fillJ 12 LP2 0) (hh_fillJ 9 LP3 0) LP4 IP0 IP1 aS ++ w_S cI cJ cZ aS VS0 VS1 VS2 NS0 NS1 NS2 LS0 LS1 LS2 LS3 LS4 LS5 LS6 LS7 LS8 IS0 aY ++ w_Y cI cJ cZ aY VY0 LY0 LY1 LY2 IY0) H) (hD : va_D A (w_P cI cJ cZ aP y5 VS2 VP2 NP0 LP0_101 (vp_updL LP1_58 ((x2_58 * 9) + 8) y94) (hh_fillJ 12 LP2 0) (hh_fillJ 9 LP3 0) LP4 IP0 IP1 aS ++ w_S cI cJ cZ aS VS0 VS1 VS2 NS0 NS1 NS2 LS0 LS1 LS2 LS3 LS4 LS5 LS6 LS7 LS8 IS0 aY ++ w_Y cI cJ cZ aY VY0 LY0 LY1 LY2 IY0)) (hS : va_S A s.heap H locs) (ls : Array Slot) (hl : lv_has ls 5 [(0, .ref (aP 0)), (1, .int x1), (2, .int (nI x2_58)), (3, .int (nI (x2_58 * 9))), (4, .int (nI x4_101))]) (hR : k_101 x4_101 LP0_101 = r0), W p l e (headSpec u_Plan_clear ({ frames := 3, cells := 0, slots := 0, locals := 81 })).room s m ([.ref (aP 0), .int x1]).toArray below meth c H locs 0 0 (hh_Zv below (dC, dI) vwCl [(cI, .int), (cJ, .long), (cZ, .boolean)] A (w_P cI cJ cZ aP r0.1 r0.2.1 VP2 NP0 r0.2.2.1 r0.2.2.2.1 r0.2.2.2.2.1 r0.2.2.2.2.2 LP4 IP0 IP1 aS ++ w_S cI cJ cZ aS VS0 VS1 VS2 NS0 NS1 NS2 LS0 LS1 LS2 LS3 LS4 LS5 LS6 LS7 LS8 IS0 aY ++ w_Y cI cJ cZ aY VY0 LY0 LY1 LY2 IY0) ([.ref (aP 0), .int x1]).toArray s) (F0 m 149 ls []) := by
          intro x4_101 LP0_101 hi H locs hP hD hS ls hl hR
          rw [← hk_101] at hR
          unfold f_Plan_clear_x101 at hR
          refine lv_iinc (v := nI (x2_58 + 1)) (lv' := [(2, .int (nI (x2_58 + 1))), (0, .ref (aP 0)), (1, .int x1), (3, .int (nI (x2_58 * 9))), (4, .int (nI x4_101))]) hx hb d_Plan_clear_149 hl (k := 2) rfl (hw_inc _ 1) (by decide) rfl (fun ls hl => ?_)
          refine lv_goto (tgt := 58) hx hb d_Plan_clear_152 (by decide) ?_
          rw [hrec_58] at hR
          exact ih_58 (x2_58 + 1) LP0_101 (vp_updL LP1_58 ((x2_58 * 9) + 8) y94) (by first | assumption | omega | exact hw_upb (by assumption) (by omega)) (by omega) H locs hP hD hS ls (lv_sub hl [1, 2, 0] rfl) hR
        have L_101 : ∀ (n : Nat) (x4_101 : Nat) (LP0_101 : Nat → Int64) (hi : x4_101 ≤ VS2) (hfu : VS2 - x4_101 < n) (H : Heap) (locs : List Loc) (hP : va_P (dC, dI) vwCl (w_P cI cJ cZ aP y5 VS2 VP2 NP0 LP0_101 (vp_updL LP1_58 ((x2_58 * 9) + 8) y94) (hh_fillJ 12 LP2 0) (hh_fillJ 9 LP3 0) LP4 IP0 IP1 aS ++ w_S cI cJ cZ aS VS0 VS1 VS2 NS0 NS1 NS2 LS0 LS1 LS2 LS3 LS4 LS5 LS6 LS7 LS8 IS0 aY ++ w_Y cI cJ cZ aY VY0 LY0 LY1 LY2 IY0) H) (hD : va_D A (w_P cI cJ cZ aP y5 VS2 VP2 NP0 LP0_101 (vp_updL LP1_58 ((x2_58 * 9) + 8) y94) (hh_fillJ 12 LP2 0) (hh_fillJ 9 LP3 0) LP4 IP0 IP1 aS ++ w_S cI cJ cZ aS VS0 VS1 VS2 NS0 NS1 NS2 LS0 LS1 LS2 LS3 LS4 LS5 LS6 LS7 LS8 IS0 aY ++ w_Y cI cJ cZ aY VY0 LY0 LY1 LY2 IY0)) (hS : va_S A s.heap H locs) (ls : Array Slot) (hl : lv_has ls 5 [(0, .ref (aP 0)), (1, .int x1), (2, .int (nI x2_58)), (3, .int (nI (x2_58 * 9))), (4, .int (nI x4_101))]) (hR : f_Plan_clear_h101 VS2 VS0 NS0 NS1 NS2 IS0 x2_58 LS1 LS2 LS3 LS5 VY0 LY0 LY1 LY2 IY0 x1 k_101 n x4_101 LP0_101 = r0), W p l e (headSpec u_Plan_clear ({ frames := 3, cells := 0, slots := 0, locals := 81 })).room s m ([.ref (aP 0), .int x1]).toArray below meth c H locs 0 0 (hh_Zv below (dC, dI) vwCl [(cI, .int), (cJ, .long), (cZ, .boolean)] A (w_P cI cJ cZ aP r0.1 r0.2.1 VP2 NP0 r0.2.2.1 r0.2.2.2.1 r0.2.2.2.2.1 r0.2.2.2.2.2 LP4 IP0 IP1 aS ++ w_S cI cJ cZ aS VS0 VS1 VS2 NS0 NS1 NS2 LS0 LS1 LS2 LS3 LS4 LS5 LS6 LS7 LS8 IS0 aY ++ w_Y cI cJ cZ aY VY0 LY0 LY1 LY2 IY0) ([.ref (aP 0), .int x1]).toArray s) (F0 m 101 ls []) := by
          intro n
          induction n with
          | zero =>
            intro x4_101 LP0_101 hi hfu H locs hP hD hS ls hl hR
            exact absurd hfu (Nat.not_lt_zero _)
          | succ n ih_101 =>
            intro x4_101 LP0_101 hi hfu H locs hP hD hS ls hl hR
            rw [f_Plan_clear_h101] at hR
            obtain ⟨rec_101, hrec_101, hR⟩ : ∃ r, r = _ ∧ f_Plan_clear_h101B VS2 VS0 NS0 NS1 NS2 IS0 x2_58 LS1 LS2 LS3 LS5 VY0 LY0 LY1 LY2 IY0 x1 k_101 r x4_101 LP0_101 = r0 := ⟨_, rfl, hR⟩
            unfold f_Plan_clear_h101B at hR
            refine lv_iload hx hb d_Plan_clear_101 (lv_at hl 4 rfl) ?_
            refine lv_aload_n hx hb d_Plan_clear_103 rfl (lv_at hl 0 rfl) ?_
            refine va_get (D := (dC, dI)) (ci := 0) (v := .int (nI VS2)) (C := R_Plan) (T := T_Plan) (N := 12) hx hb hG in_Plan hown hK hP 0 rfl rfl 2 (by decide) (hG _ m_133) (fun _ h9 => h9) rfl d_Plan_clear_104 ?_
            refine hw_icmp_ge (tgt := 149) hx hb d_Plan_clear_107 (by decide) (by omega) (by omega) (fun c107 => ?_) (fun c107 => ?_)
            · replace hR := (if_pos c107).symm.trans hR
              exact X_101 x4_101 LP0_101 (by first | assumption | omega | exact hw_upb (by assumption) (by omega)) H locs hP hD hS ls (lv_sub hl [0, 1, 2, 3, 4] rfl) hR
            · replace hR := (if_neg c107).symm.trans hR
              refine lv_aload_n hx hb d_Plan_clear_110 rfl (lv_at hl 0 rfl) ?_
              refine va_get (D := (dC, dI)) (ci := 0) (v := .ref (aS 0)) (C := R_Plan) (T := T_Plan) (N := 12) hx hb hG in_Plan hown hK hP 0 rfl rfl 0 (by decide) (hG _ m_131) (fun _ h9 => h9) rfl d_Plan_clear_111 ?_
              refine lv_iload_n hx hb d_Plan_clear_114 rfl (lv_at hl 2 rfl) ?_
              refine lv_iload hx hb d_Plan_clear_115 (lv_at hl 4 rfl) ?_
              obtain ⟨y117, hy117, hR⟩ := hw_bind hR
              have hM := c_Site_serves l dC dI cI cJ cZ H.size aS VS0 VS1 VS2 NS0 NS1 NS2 LS0 LS1 LS2 LS3 LS4 LS5 LS6 LS7 LS8 IS0 aY VY0 LY0 LY1 LY2 IY0 x2_58 x4_101 (by first | assumption | omega) (by first | assumption | omega) (by first | assumption | omega) (by first | assumption | omega) (by first | assumption | omega) (by first | assumption | omega)
              rw [hy117] at hM
              refine hw_callVi (As := [.int (nI x2_58), .int (nI x4_101)]) (rest := []) (wr := w_P cI cJ cZ aP y5 VS2 VP2 NP0 LP0_101 (vp_updL LP1_58 ((x2_58 * 9) + 8) y94) (hh_fillJ 12 LP2 0) (hh_fillJ 9 LP3 0) LP4 IP0 IP1 aS) ⟨hx, hb, hml, hown, hG⟩ hM (hw_cwV 2 hG m_387 m_388 m_389 m_2 m_390 rfl rfl (by decide +kernel) ⟨Nat.le_of_ble_eq_true rfl, Nat.le_of_ble_eq_true rfl⟩) hK hP hD hS hA [9, 10, 11, 12, 13, 14, 15, 16, 17, 18, 19, 20, 21, 22, 23, 24, 25, 26, 27] [0, 1, 2, 3, 4, 5, 6, 7, 8] rfl rfl (by decide) (by decide) (by decide) (hw_recv hK hP 9 rfl rfl) rfl hl.1 rfl (Nat.le_of_ble_eq_true rfl) d_Plan_clear_117 ⟨Nat.le_of_ble_eq_true rfl, Nat.le_of_ble_eq_true rfl⟩ (fun H locs hP hD hS => ?_)
              have hP : va_P (dC, dI) vwCl (w_P cI cJ cZ aP y5 VS2 VP2 NP0 LP0_101 (vp_updL LP1_58 ((x2_58 * 9) + 8) y94) (hh_fillJ 12 LP2 0) (hh_fillJ 9 LP3 0) LP4 IP0 IP1 aS ++ w_S cI cJ cZ aS VS0 VS1 VS2 NS0 NS1 NS2 LS0 LS1 LS2 LS3 LS4 LS5 LS6 LS7 LS8 IS0 aY ++ w_Y cI cJ cZ aY VY0 LY0 LY1 LY2 IY0) H := hP
              have hD : va_D A (w_P cI cJ cZ aP y5 VS2 VP2 NP0 LP0_101 (vp_updL LP1_58 ((x2_58 * 9) + 8) y94) (hh_fillJ 12 LP2 0) (hh_fillJ 9 LP3 0) LP4 IP0 IP1 aS ++ w_S cI cJ cZ aS VS0 VS1 VS2 NS0 NS1 NS2 LS0 LS1 LS2 LS3 LS4 LS5 LS6 LS7 LS8 IS0 aY ++ w_Y cI cJ cZ aY VY0 LY0 LY1 LY2 IY0) := hD
              refine lv_if_eq (tgt := 143) hx hb d_Plan_clear_120 (by decide) (fun c120 => ?_) (fun c120 => ?_)
              · replace hR := (if_pos c120).symm.trans hR
                refine lv_iinc (v := nI (x4_101 + 1)) (lv' := [(4, .int (nI (x4_101 + 1))), (0, .ref (aP 0)), (1, .int x1), (2, .int (nI x2_58)), (3, .int (nI (x2_58 * 9)))]) hx hb d_Plan_clear_143 hl (k := 4) rfl (hw_inc _ 1) (by decide) rfl (fun ls hl => ?_)
                refine lv_goto (tgt := 101) hx hb d_Plan_clear_146 (by decide) ?_
                rw [hrec_101] at hR
                exact ih_101 (x4_101 + 1) LP0_101 (by first | assumption | omega | exact hw_upb (by assumption) (by omega)) (by omega) H locs hP hD hS ls (lv_sub hl [1, 2, 3, 4, 0] rfl) hR
              · replace hR := (if_neg c120).symm.trans hR
                refine lv_aload_n hx hb d_Plan_clear_123 rfl (lv_at hl 0 rfl) ?_
                refine va_get (D := (dC, dI)) (ci := 0) (v := .ref (aP 1)) (C := R_Plan) (T := T_Plan) (N := 12) hx hb hG in_Plan hown hK hP 0 rfl rfl 3 (by decide) (hG _ m_134) (fun _ h9 => h9) rfl d_Plan_clear_124 ?_
                refine lv_iload_n hx hb d_Plan_clear_127 rfl (lv_at hl 3 rfl) ?_
                refine lv_iload hx hb d_Plan_clear_128 (lv_at hl 4 rfl) ?_
                refine hw_iadd hx hb d_Plan_clear_130 ?_
                refine lv_aload_n hx hb d_Plan_clear_131 rfl (lv_at hl 0 rfl) ?_
                refine va_get (D := (dC, dI)) (ci := 0) (v := .ref (aS 0)) (C := R_Plan) (T := T_Plan) (N := 12) hx hb hG in_Plan hown hK hP 0 rfl rfl 0 (by decide) (hG _ m_131) (fun _ h9 => h9) rfl d_Plan_clear_132 ?_
                refine lv_iload_n hx hb d_Plan_clear_135 rfl (lv_at hl 2 rfl) ?_
                refine lv_iload hx hb d_Plan_clear_136 (lv_at hl 4 rfl) ?_
                refine lv_iload_n hx hb d_Plan_clear_138 rfl (lv_at hl 1 rfl) ?_
                obtain ⟨y139, hy139, hR⟩ := hw_bind hR
                have hM := c_Site_unitPrice l dC dI cI cJ cZ H.size aS VS0 VS1 VS2 NS0 NS1 NS2 LS0 LS1 LS2 LS3 LS4 LS5 LS6 LS7 LS8 IS0 aY VY0 LY0 LY1 LY2 IY0 x2_58 x4_101 x1 (by first | assumption | omega) (by first | assumption | omega) (by first | assumption | omega) (by first | assumption | omega) (by first | assumption | omega) (by first | assumption | omega)
                rw [hy139] at hM
                refine hw_callVl (As := [.int (nI x2_58), .int (nI x4_101), .int x1]) (rest := [.int (nI ((x2_58 * 9) + x4_101)), .ref (aP 1)]) (wr := w_P cI cJ cZ aP y5 VS2 VP2 NP0 LP0_101 (vp_updL LP1_58 ((x2_58 * 9) + 8) y94) (hh_fillJ 12 LP2 0) (hh_fillJ 9 LP3 0) LP4 IP0 IP1 aS) ⟨hx, hb, hml, hown, hG⟩ hM (hw_cwV 3 hG m_391 m_392 m_393 m_2 m_394 rfl rfl (by decide +kernel) ⟨Nat.le_of_ble_eq_true rfl, Nat.le_of_ble_eq_true rfl⟩) hK hP hD hS hA [9, 10, 11, 12, 13, 14, 15, 16, 17, 18, 19, 20, 21, 22, 23, 24, 25, 26, 27] [0, 1, 2, 3, 4, 5, 6, 7, 8] rfl rfl (by decide) (by decide) (by decide) (hw_recv hK hP 9 rfl rfl) rfl hl.1 rfl (Nat.le_of_ble_eq_true rfl) d_Plan_clear_139 ⟨Nat.le_of_ble_eq_true rfl, Nat.le_of_ble_eq_true rfl⟩ (fun H locs hP hD hS => ?_)
                have hP : va_P (dC, dI) vwCl (w_P cI cJ cZ aP y5 VS2 VP2 NP0 LP0_101 (vp_updL LP1_58 ((x2_58 * 9) + 8) y94) (hh_fillJ 12 LP2 0) (hh_fillJ 9 LP3 0) LP4 IP0 IP1 aS ++ w_S cI cJ cZ aS VS0 VS1 VS2 NS0 NS1 NS2 LS0 LS1 LS2 LS3 LS4 LS5 LS6 LS7 LS8 IS0 aY ++ w_Y cI cJ cZ aY VY0 LY0 LY1 LY2 IY0) H := hP
                have hD : va_D A (w_P cI cJ cZ aP y5 VS2 VP2 NP0 LP0_101 (vp_updL LP1_58 ((x2_58 * 9) + 8) y94) (hh_fillJ 12 LP2 0) (hh_fillJ 9 LP3 0) LP4 IP0 IP1 aS ++ w_S cI cJ cZ aS VS0 VS1 VS2 NS0 NS1 NS2 LS0 LS1 LS2 LS3 LS4 LS5 LS6 LS7 LS8 IS0 aY ++ w_Y cI cJ cZ aY VY0 LY0 LY1 LY2 IY0) := hD
                refine hw_last (f := LP0_101) hx hb hK hP hD hS 1 1 rfl rfl (by decide) (by omega) d_Plan_clear_142 (fun H locs hP hD hS => ?_)
                have hP : va_P (dC, dI) vwCl (w_P cI cJ cZ aP y5 VS2 VP2 NP0 (vp_updL LP0_101 ((x2_58 * 9) + x4_101) y139) (vp_updL LP1_58 ((x2_58 * 9) + 8) y94) (hh_fillJ 12 LP2 0) (hh_fillJ 9 LP3 0) LP4 IP0 IP1 aS ++ w_S cI cJ cZ aS VS0 VS1 VS2 NS0 NS1 NS2 LS0 LS1 LS2 LS3 LS4 LS5 LS6 LS7 LS8 IS0 aY ++ w_Y cI cJ cZ aY VY0 LY0 LY1 LY2 IY0) H := hP
                have hD : va_D A (w_P cI cJ cZ aP y5 VS2 VP2 NP0 (vp_updL LP0_101 ((x2_58 * 9) + x4_101) y139) (vp_updL LP1_58 ((x2_58 * 9) + 8) y94) (hh_fillJ 12 LP2 0) (hh_fillJ 9 LP3 0) LP4 IP0 IP1 aS ++ w_S cI cJ cZ aS VS0 VS1 VS2 NS0 NS1 NS2 LS0 LS1 LS2 LS3 LS4 LS5 LS6 LS7 LS8 IS0 aY ++ w_Y cI cJ cZ aY VY0 LY0 LY1 LY2 IY0) := hD
                refine lv_iinc (v := nI (x4_101 + 1)) (lv' := [(4, .int (nI (x4_101 + 1))), (0, .ref (aP 0)), (1, .int x1), (2, .int (nI x2_58)), (3, .int (nI (x2_58 * 9)))]) hx hb d_Plan_clear_143 hl (k := 4) rfl (hw_inc _ 1) (by decide) rfl (fun ls hl => ?_)
                refine lv_goto (tgt := 101) hx hb d_Plan_clear_146 (by decide) ?_
                rw [hrec_101] at hR
                exact ih_101 (x4_101 + 1) (vp_updL LP0_101 ((x2_58 * 9) + x4_101) y139) (by first | assumption | omega | exact hw_upb (by assumption) (by omega)) (by omega) H locs hP hD hS ls (lv_sub hl [1, 2, 3, 4, 0] rfl) hR
        exact L_101 9 0 (vp_updL LP0_58 ((x2_58 * 9) + 8) 0) (by first | assumption | omega | exact hw_upb (by assumption) (by omega)) (by omega) H locs hP hD hS ls (lv_sub hl [2, 3, 4, 1, 0] rfl) hR
  exact L_58 13 0 (hh_fillJ 108 LP0 (-1)) (hh_fillJ 108 LP1 0) (by first | assumption | omega | exact hw_upb (by assumption) (by omega)) (by omega) H locs hP hD hS ls (lv_sub hl [1, 2, 0] rfl) hR
def f_Plan_enqueue (VP2 : Nat) (NP0 : Nat → Nat) (IP1 : Nat → Int32) (x1 : Nat) (x2 : Nat) : (Nat) × (Nat → Nat) × (Nat → Int32) :=
  if (IP1 x1) = (-1) then (if 21 ≤ VP2 then (VP2, NP0, IP1) else (VP2 + 1, va_up NP0 VP2 x1, upd IP1 x1 (nI x2))) else (VP2, NP0, IP1)
set_option maxHeartbeats 4000000 in
set_option maxRecDepth 100000 in
theorem c_Plan_enqueue (l : Launch) (dC : Nat → ClassId) (dI : Nat → Nat → Nat) (cI cJ cZ : ClassId) (sz : Nat) (aP : Nat → Nat) (VP0 : Nat) (VP1 : Nat) (VP2 : Nat) (NP0 : Nat → Nat) (LP0 : Nat → Int64) (LP1 : Nat → Int64) (LP2 : Nat → Int64) (LP3 : Nat → Int64) (LP4 : Nat → Int64) (IP0 : Nat → Int32) (IP1 : Nat → Int32) (aS : Nat → Nat) (VS0 : Nat) (VS1 : Nat) (VS2 : Nat) (NS0 : Nat → Nat) (NS1 : Nat → Nat) (NS2 : Nat → Nat) (LS0 : Nat → Int64) (LS1 : Nat → Int64) (LS2 : Nat → Int64) (LS3 : Nat → Int64) (LS4 : Nat → Int64) (LS5 : Nat → Int64) (LS6 : Nat → Int64) (LS7 : Nat → Int64) (LS8 : Nat → Int64) (IS0 : Nat → Int32) (aY : Nat → Nat) (VY0 : Nat) (LY0 : Nat → Int64) (LY1 : Nat → Int64) (LY2 : Nat → Int64) (IY0 : Nat → Int32) (x1 : Nat) (x2 : Nat) (hq2 : VP2 ≤ 21) (hx1 : x1 < 21) (hx2 : x2 < 21) : hh_Cv l y_Plan_enqueue u_Plan_enqueue ({ frames := 0, cells := 0, slots := 0, locals := 0 }) (dC, dI) vwCl [(cI, .int), (cJ, .long), (cZ, .boolean)] (w_P cI cJ cZ aP VP0 VP1 VP2 NP0 LP0 LP1 LP2 LP3 LP4 IP0 IP1 aS ++ w_S cI cJ cZ aS VS0 VS1 VS2 NS0 NS1 NS2 LS0 LS1 LS2 LS3 LS4 LS5 LS6 LS7 LS8 IS0 aY ++ w_Y cI cJ cZ aY VY0 LY0 LY1 LY2 IY0) sz [.ref (aP 0), .int (nI x1), .int (nI x2)] (w_P cI cJ cZ aP VP0 VP1 ((f_Plan_enqueue VP2 NP0 IP1 x1 x2).1) ((f_Plan_enqueue VP2 NP0 IP1 x1 x2).2.1) LP0 LP1 LP2 LP3 LP4 IP0 ((f_Plan_enqueue VP2 NP0 IP1 x1 x2).2.2) aS ++ w_S cI cJ cZ aS VS0 VS1 VS2 NS0 NS1 NS2 LS0 LS1 LS2 LS3 LS4 LS5 LS6 LS7 LS8 IS0 aY ++ w_Y cI cJ cZ aY VY0 LY0 LY1 LY2 IY0) 0 0 := by
  unfold hh_Cv
  refine Met.ofW (cc := b_Plan_enqueue) (maxL := 3) (ret := none) (by decide) rfl ?_
  intro p e s m args below meth c s₁ B hml hv
  obtain ⟨rfl, hsz, hP, hK, hD0⟩ := hv
  have hx := B.exec
  have hb := B.bytes
  have hr := B.returns
  have hts := atoms_spec (ws := u_Plan_enqueue) B.pre
  have hG : ∀ w ∈ wG, w.before ([.ref (aP 0), .int (nI x1), .int (nI x2)]).toArray s = true := fun w h => hts w (List.mem_cons_of_mem _ h)
  have hown : s.vm.findClass R_Plan = some m.cls := findClass_of_methodNamed B.named
  have hlocks := B.notSynchronized
  subst hsz
  have hD := hD0.self (sz := s.heap.size)
  generalize hAe : va_A (w_P cI cJ cZ aP VP0 VP1 VP2 NP0 LP0 LP1 LP2 LP3 LP4 IP0 IP1 aS ++ w_S cI cJ cZ aS VS0 VS1 VS2 NS0 NS1 NS2 LS0 LS1 LS2 LS3 LS4 LS5 LS6 LS7 LS8 IS0 aY ++ w_Y cI cJ cZ aY VY0 LY0 LY1 LY2 IY0) s.heap.size = A at hD ⊢
  have hA : ∀ q : Nat, s.heap.size ≤ q → A q := fun q h => by rw [← hAe]; exact Or.inr h
  have hS : va_S A s.heap s.heap [] := va_S.rf
  have hl := lv_entry ([.ref (aP 0), .int (nI x1), .int (nI x2)]) (n := 3) (Nat.le_of_ble_eq_true rfl)
  rw [lg_entry_eq]
  generalize (lg_sl ([.ref (aP 0), .int (nI x1), .int (nI x2)]) ++ List.replicate (3 - (lg_sl ([.ref (aP 0), .int (nI x1), .int (nI x2)])).length) Slot.unset).toArray = ls at hl ⊢
  have hl : lv_has ls 3 [(0, .ref (aP 0)), (1, .int (nI x1)), (2, .int (nI x2))] := hl
  generalize hR : f_Plan_enqueue VP2 NP0 IP1 x1 x2 = r0
  obtain ⟨H, locs, hHe, hle⟩ : ∃ (H : Heap) (locs : List Loc), s.heap = H ∧ [] = locs := ⟨_, _, rfl, rfl⟩
  have hP : va_P (dC, dI) vwCl (w_P cI cJ cZ aP VP0 VP1 VP2 NP0 LP0 LP1 LP2 LP3 LP4 IP0 IP1 aS ++ w_S cI cJ cZ aS VS0 VS1 VS2 NS0 NS1 NS2 LS0 LS1 LS2 LS3 LS4 LS5 LS6 LS7 LS8 IS0 aY ++ w_Y cI cJ cZ aY VY0 LY0 LY1 LY2 IY0) H := by rw [← hHe]; exact hP
  have hS : va_S A s.heap H locs := by rw [← hHe, ← hle]; exact hS
  refine hw_start hHe hle ?_
  unfold f_Plan_enqueue at hR
  refine lv_aload_n hx hb d_Plan_enqueue_0 rfl (lv_at hl 0 rfl) ?_
  refine va_get (D := (dC, dI)) (ci := 0) (v := .ref (aP 7)) (C := R_Plan) (T := T_Plan) (N := 12) hx hb hG in_Plan hown hK hP 0 rfl rfl 9 (by decide) (hG _ m_140) (fun _ h9 => h9) rfl d_Plan_enqueue_1 ?_
  refine lv_iload_n hx hb d_Plan_enqueue_4 rfl (lv_at hl 1 rfl) ?_
  refine hw_iald (f := IP1) hx hb hK hP 7 0 rfl rfl (by decide) (by omega) d_Plan_enqueue_5 ?_
  refine lv_iconst (v := (-1)) hx hb d_Plan_enqueue_6 (by decide) ?_
  refine lv_icmp_ne (tgt := 46) hx hb d_Plan_enqueue_7 (by decide) (fun c7 => ?_) (fun c7 => ?_)
  · replace hR := (if_neg c7).symm.trans hR
    subst hR
    exact W.vret hx hb hr (fun t ht hW => ⟨⟨(), rfl, trivial, by rw [ht]; exact hP, va_K.moved hW.alike hK, hD⟩, hS.F ht⟩) hS.2.2 d_Plan_enqueue_46
  · replace hR := (if_pos c7).symm.trans hR
    refine lv_aload_n hx hb d_Plan_enqueue_10 rfl (lv_at hl 0 rfl) ?_
    refine va_get (D := (dC, dI)) (ci := 0) (v := .int (nI VP2)) (C := R_Plan) (T := T_Plan) (N := 12) hx hb hG in_Plan hown hK hP 0 rfl rfl 11 (by decide) (hG _ m_142) (fun _ h9 => h9) rfl d_Plan_enqueue_11 ?_
    refine lv_bipush (v := nI 21) hx hb d_Plan_enqueue_14 (by decide) ?_
    refine hw_icmp_ge (tgt := 46) hx hb d_Plan_enqueue_16 (by decide) (by omega) (by omega) (fun c16 => ?_) (fun c16 => ?_)
    · replace hR := (if_pos c16).symm.trans hR
      subst hR
      exact W.vret hx hb hr (fun t ht hW => ⟨⟨(), rfl, trivial, by rw [ht]; exact hP, va_K.moved hW.alike hK, hD⟩, hS.F ht⟩) hS.2.2 d_Plan_enqueue_46
    · replace hR := (if_neg c16).symm.trans hR
      refine lv_aload_n hx hb d_Plan_enqueue_19 rfl (lv_at hl 0 rfl) ?_
      refine va_get (D := (dC, dI)) (ci := 0) (v := .ref (aP 7)) (C := R_Plan) (T := T_Plan) (N := 12) hx hb hG in_Plan hown hK hP 0 rfl rfl 9 (by decide) (hG _ m_140) (fun _ h9 => h9) rfl d_Plan_enqueue_20 ?_
      refine lv_iload_n hx hb d_Plan_enqueue_23 rfl (lv_at hl 1 rfl) ?_
      refine lv_iload_n hx hb d_Plan_enqueue_24 rfl (lv_at hl 2 rfl) ?_
      refine hw_iast (f := IP1) hx hb hK hP hD hS 7 0 rfl rfl (by decide) (by omega) d_Plan_enqueue_25 (fun H locs hP hD hS => ?_)
      have hP : va_P (dC, dI) vwCl (w_P cI cJ cZ aP VP0 VP1 VP2 NP0 LP0 LP1 LP2 LP3 LP4 IP0 (upd IP1 x1 (nI x2)) aS ++ w_S cI cJ cZ aS VS0 VS1 VS2 NS0 NS1 NS2 LS0 LS1 LS2 LS3 LS4 LS5 LS6 LS7 LS8 IS0 aY ++ w_Y cI cJ cZ aY VY0 LY0 LY1 LY2 IY0) H := hP
      have hD : va_D A (w_P cI cJ cZ aP VP0 VP1 VP2 NP0 LP0 LP1 LP2 LP3 LP4 IP0 (upd IP1 x1 (nI x2)) aS ++ w_S cI cJ cZ aS VS0 VS1 VS2 NS0 NS1 NS2 LS0 LS1 LS2 LS3 LS4 LS5 LS6 LS7 LS8 IS0 aY ++ w_Y cI cJ cZ aY VY0 LY0 LY1 LY2 IY0) := hD
      refine lv_aload_n hx hb d_Plan_enqueue_26 rfl (lv_at hl 0 rfl) ?_
      refine va_get (D := (dC, dI)) (ci := 0) (v := .ref (aP 8)) (C := R_Plan) (T := T_Plan) (N := 12) hx hb hG in_Plan hown hK hP 0 rfl rfl 10 (by decide) (hG _ m_141) (fun _ h9 => h9) rfl d_Plan_enqueue_27 ?_
      refine lv_aload_n hx hb d_Plan_enqueue_30 rfl (lv_at hl 0 rfl) ?_
      refine va_get (D := (dC, dI)) (ci := 0) (v := .int (nI VP2)) (C := R_Plan) (T := T_Plan) (N := 12) hx hb hG in_Plan hown hK hP 0 rfl rfl 11 (by decide) (hG _ m_142) (fun _ h9 => h9) rfl d_Plan_enqueue_31 ?_
      refine lv_iload_n hx hb d_Plan_enqueue_34 rfl (lv_at hl 1 rfl) ?_
      refine hw_nast (g := NP0) hx hb hK hP hD hS 8 0 rfl rfl (by decide) (by omega) d_Plan_enqueue_35 (fun H locs hP hD hS => ?_)
      have hP : va_P (dC, dI) vwCl (w_P cI cJ cZ aP VP0 VP1 VP2 (va_up NP0 VP2 x1) LP0 LP1 LP2 LP3 LP4 IP0 (upd IP1 x1 (nI x2)) aS ++ w_S cI cJ cZ aS VS0 VS1 VS2 NS0 NS1 NS2 LS0 LS1 LS2 LS3 LS4 LS5 LS6 LS7 LS8 IS0 aY ++ w_Y cI cJ cZ aY VY0 LY0 LY1 LY2 IY0) H := hP
      have hD : va_D A (w_P cI cJ cZ aP VP0 VP1 VP2 (va_up NP0 VP2 x1) LP0 LP1 LP2 LP3 LP4 IP0 (upd IP1 x1 (nI x2)) aS ++ w_S cI cJ cZ aS VS0 VS1 VS2 NS0 NS1 NS2 LS0 LS1 LS2 LS3 LS4 LS5 LS6 LS7 LS8 IS0 aY ++ w_Y cI cJ cZ aY VY0 LY0 LY1 LY2 IY0) := hD
      refine lv_aload_n hx hb d_Plan_enqueue_36 rfl (lv_at hl 0 rfl) ?_
      refine lv_dup hx hb d_Plan_enqueue_37 rfl ?_
      refine va_get (D := (dC, dI)) (ci := 0) (v := .int (nI VP2)) (C := R_Plan) (T := T_Plan) (N := 12) hx hb hG in_Plan hown hK hP 0 rfl rfl 11 (by decide) (hG _ m_142) (fun _ h9 => h9) rfl d_Plan_enqueue_38 ?_
      refine lv_iconst (v := nI 1) hx hb d_Plan_enqueue_41 (by decide) ?_
      refine hw_iadd hx hb d_Plan_enqueue_42 ?_
      refine va_put (D := (dC, dI)) (ci := 0) (v := .int (nI (VP2 + 1))) (ty := .int) (C := R_Plan) (T := T_Plan) (N := 12) hx hb hG in_Plan ty_Plan tok_Plan nok_Plan hown hK hP hD hS 0 rfl rfl 11 (by decide) (hG _ m_142) (fun _ h9 => h9) rfl (by decide +kernel) rfl rfl (Nat.le_of_ble_eq_true rfl) d_Plan_enqueue_43 (fun H locs hP hD hS => ?_)
      have hP : va_P (dC, dI) vwCl (w_P cI cJ cZ aP VP0 VP1 (VP2 + 1) (va_up NP0 VP2 x1) LP0 LP1 LP2 LP3 LP4 IP0 (upd IP1 x1 (nI x2)) aS ++ w_S cI cJ cZ aS VS0 VS1 VS2 NS0 NS1 NS2 LS0 LS1 LS2 LS3 LS4 LS5 LS6 LS7 LS8 IS0 aY ++ w_Y cI cJ cZ aY VY0 LY0 LY1 LY2 IY0) H := hP
      have hD : va_D A (w_P cI cJ cZ aP VP0 VP1 (VP2 + 1) (va_up NP0 VP2 x1) LP0 LP1 LP2 LP3 LP4 IP0 (upd IP1 x1 (nI x2)) aS ++ w_S cI cJ cZ aS VS0 VS1 VS2 NS0 NS1 NS2 LS0 LS1 LS2 LS3 LS4 LS5 LS6 LS7 LS8 IS0 aY ++ w_Y cI cJ cZ aY VY0 LY0 LY1 LY2 IY0) := hD
      subst hR
      exact W.vret hx hb hr (fun t ht hW => ⟨⟨(), rfl, trivial, by rw [ht]; exact hP, va_K.moved hW.alike hK, hD⟩, hS.F ht⟩) hS.2.2 d_Plan_enqueue_46
