abbrev b_HaulFlows_cut : ByteArray := prog_1_method_2_code
def y_HaulFlows_cut : MethodName := ⟨R_HaulFlows, "cut", "(JIIJ)I"⟩
def u_HaulFlows_cut : List Cond := Cond.code y_HaulFlows_cut b_HaulFlows_cut 7 (some .int) :: wG
theorem d_HaulFlows_cut_0 : decode b_HaulFlows_cut 0 = .ok (.lload_n 1, 1) := by decide +kernel
theorem d_HaulFlows_cut_1 : decode b_HaulFlows_cut 1 = .ok (.invokestatic 39, 3) := by decide +kernel
theorem d_HaulFlows_cut_4 : decode b_HaulFlows_cut 4 = .ok (.ifCond .eq 41, 3) := by decide +kernel
theorem d_HaulFlows_cut_7 : decode b_HaulFlows_cut 7 = .ok (.iload_n 3, 1) := by decide +kernel
theorem d_HaulFlows_cut_8 : decode b_HaulFlows_cut 8 = .ok (.iconst 4, 1) := by decide +kernel
theorem d_HaulFlows_cut_9 : decode b_HaulFlows_cut 9 = .ok (.invokestatic 43, 3) := by decide +kernel
theorem d_HaulFlows_cut_12 : decode b_HaulFlows_cut 12 = .ok (.ifCond .eq 33, 3) := by decide +kernel
theorem d_HaulFlows_cut_15 : decode b_HaulFlows_cut 15 = .ok (.iload 4, 2) := by decide +kernel
theorem d_HaulFlows_cut_17 : decode b_HaulFlows_cut 17 = .ok (.bipush 12, 2) := by decide +kernel
theorem d_HaulFlows_cut_19 : decode b_HaulFlows_cut 19 = .ok (.invokestatic 43, 3) := by decide +kernel
theorem d_HaulFlows_cut_22 : decode b_HaulFlows_cut 22 = .ok (.ifCond .eq 23, 3) := by decide +kernel
theorem d_HaulFlows_cut_25 : decode b_HaulFlows_cut 25 = .ok (.lload 5, 2) := by decide +kernel
theorem d_HaulFlows_cut_27 : decode b_HaulFlows_cut 27 = .ok (.invokestatic 47, 3) := by decide +kernel
theorem d_HaulFlows_cut_30 : decode b_HaulFlows_cut 30 = .ok (.ifCond .eq 15, 3) := by decide +kernel
theorem d_HaulFlows_cut_33 : decode b_HaulFlows_cut 33 = .ok (.aload_n 0, 1) := by decide +kernel
theorem d_HaulFlows_cut_34 : decode b_HaulFlows_cut 34 = .ok (.getfield 12, 3) := by decide +kernel
theorem d_HaulFlows_cut_37 : decode b_HaulFlows_cut 37 = .ok (.getfield 50, 3) := by decide +kernel
theorem d_HaulFlows_cut_40 : decode b_HaulFlows_cut 40 = .ok (.bipush 8, 2) := by decide +kernel
theorem d_HaulFlows_cut_42 : decode b_HaulFlows_cut 42 = .ok (.if_icmp .lt 5, 3) := by decide +kernel
theorem d_HaulFlows_cut_45 : decode b_HaulFlows_cut 45 = .ok (.iconst (-1), 1) := by decide +kernel
theorem d_HaulFlows_cut_46 : decode b_HaulFlows_cut 46 = .ok (.ireturn, 1) := by decide +kernel
theorem d_HaulFlows_cut_47 : decode b_HaulFlows_cut 47 = .ok (.aload_n 0, 1) := by decide +kernel
theorem d_HaulFlows_cut_48 : decode b_HaulFlows_cut 48 = .ok (.iconst 0, 1) := by decide +kernel
theorem d_HaulFlows_cut_49 : decode b_HaulFlows_cut 49 = .ok (.putfield 35, 3) := by decide +kernel
theorem d_HaulFlows_cut_52 : decode b_HaulFlows_cut 52 = .ok (.aload_n 0, 1) := by decide +kernel
theorem d_HaulFlows_cut_53 : decode b_HaulFlows_cut 53 = .ok (.getfield 12, 3) := by decide +kernel
theorem d_HaulFlows_cut_56 : decode b_HaulFlows_cut 56 = .ok (.lload_n 1, 1) := by decide +kernel
theorem d_HaulFlows_cut_57 : decode b_HaulFlows_cut 57 = .ok (.iload_n 3, 1) := by decide +kernel
theorem d_HaulFlows_cut_58 : decode b_HaulFlows_cut 58 = .ok (.iload 4, 2) := by decide +kernel
theorem d_HaulFlows_cut_60 : decode b_HaulFlows_cut 60 = .ok (.lload 5, 2) := by decide +kernel
theorem d_HaulFlows_cut_62 : decode b_HaulFlows_cut 62 = .ok (.invokevirtual 53, 3) := by decide +kernel
theorem d_HaulFlows_cut_65 : decode b_HaulFlows_cut 65 = .ok (.ireturn, 1) := by decide +kernel
abbrev b_HaulFlows_fill : ByteArray := prog_1_method_3_code
def y_HaulFlows_fill : MethodName := ⟨R_HaulFlows, "fill", "(JIJ)I"⟩
def u_HaulFlows_fill : List Cond := Cond.code y_HaulFlows_fill b_HaulFlows_fill 6 (some .int) :: wG
theorem d_HaulFlows_fill_0 : decode b_HaulFlows_fill 0 = .ok (.lload_n 1, 1) := by decide +kernel
theorem d_HaulFlows_fill_1 : decode b_HaulFlows_fill 1 = .ok (.invokestatic 39, 3) := by decide +kernel
theorem d_HaulFlows_fill_4 : decode b_HaulFlows_fill 4 = .ok (.ifCond .eq 32, 3) := by decide +kernel
theorem d_HaulFlows_fill_7 : decode b_HaulFlows_fill 7 = .ok (.iload_n 3, 1) := by decide +kernel
theorem d_HaulFlows_fill_8 : decode b_HaulFlows_fill 8 = .ok (.bipush 12, 2) := by decide +kernel
theorem d_HaulFlows_fill_10 : decode b_HaulFlows_fill 10 = .ok (.invokestatic 43, 3) := by decide +kernel
theorem d_HaulFlows_fill_13 : decode b_HaulFlows_fill 13 = .ok (.ifCond .eq 23, 3) := by decide +kernel
theorem d_HaulFlows_fill_16 : decode b_HaulFlows_fill 16 = .ok (.lload 4, 2) := by decide +kernel
theorem d_HaulFlows_fill_18 : decode b_HaulFlows_fill 18 = .ok (.invokestatic 47, 3) := by decide +kernel
theorem d_HaulFlows_fill_21 : decode b_HaulFlows_fill 21 = .ok (.ifCond .eq 15, 3) := by decide +kernel
theorem d_HaulFlows_fill_24 : decode b_HaulFlows_fill 24 = .ok (.aload_n 0, 1) := by decide +kernel
theorem d_HaulFlows_fill_25 : decode b_HaulFlows_fill 25 = .ok (.getfield 12, 3) := by decide +kernel
theorem d_HaulFlows_fill_28 : decode b_HaulFlows_fill 28 = .ok (.getfield 57, 3) := by decide +kernel
theorem d_HaulFlows_fill_31 : decode b_HaulFlows_fill 31 = .ok (.bipush 8, 2) := by decide +kernel
theorem d_HaulFlows_fill_33 : decode b_HaulFlows_fill 33 = .ok (.if_icmp .lt 5, 3) := by decide +kernel
theorem d_HaulFlows_fill_36 : decode b_HaulFlows_fill 36 = .ok (.iconst (-1), 1) := by decide +kernel
theorem d_HaulFlows_fill_37 : decode b_HaulFlows_fill 37 = .ok (.ireturn, 1) := by decide +kernel
theorem d_HaulFlows_fill_38 : decode b_HaulFlows_fill 38 = .ok (.aload_n 0, 1) := by decide +kernel
theorem d_HaulFlows_fill_39 : decode b_HaulFlows_fill 39 = .ok (.iconst 0, 1) := by decide +kernel
theorem d_HaulFlows_fill_40 : decode b_HaulFlows_fill 40 = .ok (.putfield 35, 3) := by decide +kernel
theorem d_HaulFlows_fill_43 : decode b_HaulFlows_fill 43 = .ok (.aload_n 0, 1) := by decide +kernel
theorem d_HaulFlows_fill_44 : decode b_HaulFlows_fill 44 = .ok (.getfield 12, 3) := by decide +kernel
theorem d_HaulFlows_fill_47 : decode b_HaulFlows_fill 47 = .ok (.lload_n 1, 1) := by decide +kernel
theorem d_HaulFlows_fill_48 : decode b_HaulFlows_fill 48 = .ok (.iload_n 3, 1) := by decide +kernel
theorem d_HaulFlows_fill_49 : decode b_HaulFlows_fill 49 = .ok (.lload 4, 2) := by decide +kernel
theorem d_HaulFlows_fill_51 : decode b_HaulFlows_fill 51 = .ok (.invokevirtual 60, 3) := by decide +kernel
theorem d_HaulFlows_fill_54 : decode b_HaulFlows_fill 54 = .ok (.ireturn, 1) := by decide +kernel
abbrev b_HaulFlows_swell : ByteArray := prog_1_method_4_code
def y_HaulFlows_swell : MethodName := ⟨R_HaulFlows, "swell", "(IJJ)Z"⟩
def u_HaulFlows_swell : List Cond := Cond.code y_HaulFlows_swell b_HaulFlows_swell 6 (some .boolean) :: wG
theorem d_HaulFlows_swell_0 : decode b_HaulFlows_swell 0 = .ok (.iload_n 1, 1) := by decide +kernel
theorem d_HaulFlows_swell_1 : decode b_HaulFlows_swell 1 = .ok (.iconst 4, 1) := by decide +kernel
theorem d_HaulFlows_swell_2 : decode b_HaulFlows_swell 2 = .ok (.invokestatic 43, 3) := by decide +kernel
theorem d_HaulFlows_swell_5 : decode b_HaulFlows_swell 5 = .ok (.ifCond .eq 18, 3) := by decide +kernel
theorem d_HaulFlows_swell_8 : decode b_HaulFlows_swell 8 = .ok (.lload_n 2, 1) := by decide +kernel
theorem d_HaulFlows_swell_9 : decode b_HaulFlows_swell 9 = .ok (.invokestatic 64, 3) := by decide +kernel
theorem d_HaulFlows_swell_12 : decode b_HaulFlows_swell 12 = .ok (.ifCond .eq 11, 3) := by decide +kernel
theorem d_HaulFlows_swell_15 : decode b_HaulFlows_swell 15 = .ok (.lload 4, 2) := by decide +kernel
theorem d_HaulFlows_swell_17 : decode b_HaulFlows_swell 17 = .ok (.invokestatic 64, 3) := by decide +kernel
theorem d_HaulFlows_swell_20 : decode b_HaulFlows_swell 20 = .ok (.ifCond .ne 5, 3) := by decide +kernel
theorem d_HaulFlows_swell_23 : decode b_HaulFlows_swell 23 = .ok (.iconst 0, 1) := by decide +kernel
theorem d_HaulFlows_swell_24 : decode b_HaulFlows_swell 24 = .ok (.ireturn, 1) := by decide +kernel
theorem d_HaulFlows_swell_25 : decode b_HaulFlows_swell 25 = .ok (.aload_n 0, 1) := by decide +kernel
theorem d_HaulFlows_swell_26 : decode b_HaulFlows_swell 26 = .ok (.iconst 0, 1) := by decide +kernel
theorem d_HaulFlows_swell_27 : decode b_HaulFlows_swell 27 = .ok (.putfield 35, 3) := by decide +kernel
theorem d_HaulFlows_swell_30 : decode b_HaulFlows_swell 30 = .ok (.aload_n 0, 1) := by decide +kernel
theorem d_HaulFlows_swell_31 : decode b_HaulFlows_swell 31 = .ok (.getfield 12, 3) := by decide +kernel
theorem d_HaulFlows_swell_34 : decode b_HaulFlows_swell 34 = .ok (.getfield 67, 3) := by decide +kernel
theorem d_HaulFlows_swell_37 : decode b_HaulFlows_swell 37 = .ok (.iload_n 1, 1) := by decide +kernel
theorem d_HaulFlows_swell_38 : decode b_HaulFlows_swell 38 = .ok (.lload_n 2, 1) := by decide +kernel
theorem d_HaulFlows_swell_39 : decode b_HaulFlows_swell 39 = .ok (.lastore, 1) := by decide +kernel
theorem d_HaulFlows_swell_40 : decode b_HaulFlows_swell 40 = .ok (.aload_n 0, 1) := by decide +kernel
theorem d_HaulFlows_swell_41 : decode b_HaulFlows_swell 41 = .ok (.getfield 12, 3) := by decide +kernel
theorem d_HaulFlows_swell_44 : decode b_HaulFlows_swell 44 = .ok (.getfield 71, 3) := by decide +kernel
theorem d_HaulFlows_swell_47 : decode b_HaulFlows_swell 47 = .ok (.iload_n 1, 1) := by decide +kernel
theorem d_HaulFlows_swell_48 : decode b_HaulFlows_swell 48 = .ok (.lload 4, 2) := by decide +kernel
theorem d_HaulFlows_swell_50 : decode b_HaulFlows_swell 50 = .ok (.lastore, 1) := by decide +kernel
theorem d_HaulFlows_swell_51 : decode b_HaulFlows_swell 51 = .ok (.iconst 1, 1) := by decide +kernel
theorem d_HaulFlows_swell_52 : decode b_HaulFlows_swell 52 = .ok (.ireturn, 1) := by decide +kernel
abbrev b_HaulFlows_fits : ByteArray := prog_1_method_5_code
def y_HaulFlows_fits : MethodName := ⟨R_HaulFlows, "fits", "(IIZ)Z"⟩
def u_HaulFlows_fits : List Cond := Cond.code y_HaulFlows_fits b_HaulFlows_fits 4 (some .boolean) :: wG
theorem d_HaulFlows_fits_0 : decode b_HaulFlows_fits 0 = .ok (.iload_n 1, 1) := by decide +kernel
theorem d_HaulFlows_fits_1 : decode b_HaulFlows_fits 1 = .ok (.iconst 4, 1) := by decide +kernel
theorem d_HaulFlows_fits_2 : decode b_HaulFlows_fits 2 = .ok (.invokestatic 43, 3) := by decide +kernel
theorem d_HaulFlows_fits_5 : decode b_HaulFlows_fits 5 = .ok (.ifCond .eq 17, 3) := by decide +kernel
theorem d_HaulFlows_fits_8 : decode b_HaulFlows_fits 8 = .ok (.iload_n 2, 1) := by decide +kernel
theorem d_HaulFlows_fits_9 : decode b_HaulFlows_fits 9 = .ok (.aload_n 0, 1) := by decide +kernel
theorem d_HaulFlows_fits_10 : decode b_HaulFlows_fits 10 = .ok (.getfield 12, 3) := by decide +kernel
theorem d_HaulFlows_fits_13 : decode b_HaulFlows_fits 13 = .ok (.getfield 57, 3) := by decide +kernel
theorem d_HaulFlows_fits_16 : decode b_HaulFlows_fits 16 = .ok (.invokestatic 43, 3) := by decide +kernel
theorem d_HaulFlows_fits_19 : decode b_HaulFlows_fits 19 = .ok (.ifCond .ne 5, 3) := by decide +kernel
theorem d_HaulFlows_fits_22 : decode b_HaulFlows_fits 22 = .ok (.iconst 0, 1) := by decide +kernel
theorem d_HaulFlows_fits_23 : decode b_HaulFlows_fits 23 = .ok (.ireturn, 1) := by decide +kernel
theorem d_HaulFlows_fits_24 : decode b_HaulFlows_fits 24 = .ok (.aload_n 0, 1) := by decide +kernel
theorem d_HaulFlows_fits_25 : decode b_HaulFlows_fits 25 = .ok (.iconst 0, 1) := by decide +kernel
theorem d_HaulFlows_fits_26 : decode b_HaulFlows_fits 26 = .ok (.putfield 35, 3) := by decide +kernel
theorem d_HaulFlows_fits_29 : decode b_HaulFlows_fits 29 = .ok (.aload_n 0, 1) := by decide +kernel
theorem d_HaulFlows_fits_30 : decode b_HaulFlows_fits 30 = .ok (.getfield 12, 3) := by decide +kernel
theorem d_HaulFlows_fits_33 : decode b_HaulFlows_fits 33 = .ok (.iload_n 1, 1) := by decide +kernel
theorem d_HaulFlows_fits_34 : decode b_HaulFlows_fits 34 = .ok (.iload_n 2, 1) := by decide +kernel
theorem d_HaulFlows_fits_35 : decode b_HaulFlows_fits 35 = .ok (.iload_n 3, 1) := by decide +kernel
theorem d_HaulFlows_fits_36 : decode b_HaulFlows_fits 36 = .ok (.invokevirtual 74, 3) := by decide +kernel
theorem d_HaulFlows_fits_39 : decode b_HaulFlows_fits 39 = .ok (.iconst 1, 1) := by decide +kernel
theorem d_HaulFlows_fits_40 : decode b_HaulFlows_fits 40 = .ok (.ireturn, 1) := by decide +kernel
abbrev b_HaulFlows_way : ByteArray := prog_1_method_6_code
def y_HaulFlows_way : MethodName := ⟨R_HaulFlows, "way", "(JJJ)I"⟩
def u_HaulFlows_way : List Cond := Cond.code y_HaulFlows_way b_HaulFlows_way 7 (some .int) :: wG
theorem d_HaulFlows_way_0 : decode b_HaulFlows_way 0 = .ok (.lload_n 1, 1) := by decide +kernel
theorem d_HaulFlows_way_1 : decode b_HaulFlows_way 1 = .ok (.invokestatic 47, 3) := by decide +kernel
theorem d_HaulFlows_way_4 : decode b_HaulFlows_way 4 = .ok (.ifCond .eq 33, 3) := by decide +kernel
theorem d_HaulFlows_way_7 : decode b_HaulFlows_way 7 = .ok (.lload_n 3, 1) := by decide +kernel
theorem d_HaulFlows_way_8 : decode b_HaulFlows_way 8 = .ok (.invokestatic 47, 3) := by decide +kernel
theorem d_HaulFlows_way_11 : decode b_HaulFlows_way 11 = .ok (.ifCond .eq 26, 3) := by decide +kernel
theorem d_HaulFlows_way_14 : decode b_HaulFlows_way 14 = .ok (.lload 5, 2) := by decide +kernel
theorem d_HaulFlows_way_16 : decode b_HaulFlows_way 16 = .ok (.invokestatic 78, 3) := by decide +kernel
theorem d_HaulFlows_way_19 : decode b_HaulFlows_way 19 = .ok (.ifCond .eq 18, 3) := by decide +kernel
theorem d_HaulFlows_way_22 : decode b_HaulFlows_way 22 = .ok (.aload_n 0, 1) := by decide +kernel
theorem d_HaulFlows_way_23 : decode b_HaulFlows_way 23 = .ok (.getfield 12, 3) := by decide +kernel
theorem d_HaulFlows_way_26 : decode b_HaulFlows_way 26 = .ok (.getfield 81, 3) := by decide +kernel
theorem d_HaulFlows_way_29 : decode b_HaulFlows_way 29 = .ok (.getfield 85, 3) := by decide +kernel
theorem d_HaulFlows_way_32 : decode b_HaulFlows_way 32 = .ok (.bipush 6, 2) := by decide +kernel
theorem d_HaulFlows_way_34 : decode b_HaulFlows_way 34 = .ok (.if_icmp .lt 5, 3) := by decide +kernel
theorem d_HaulFlows_way_37 : decode b_HaulFlows_way 37 = .ok (.iconst (-1), 1) := by decide +kernel
theorem d_HaulFlows_way_38 : decode b_HaulFlows_way 38 = .ok (.ireturn, 1) := by decide +kernel
theorem d_HaulFlows_way_39 : decode b_HaulFlows_way 39 = .ok (.aload_n 0, 1) := by decide +kernel
theorem d_HaulFlows_way_40 : decode b_HaulFlows_way 40 = .ok (.iconst 0, 1) := by decide +kernel
theorem d_HaulFlows_way_41 : decode b_HaulFlows_way 41 = .ok (.putfield 35, 3) := by decide +kernel
theorem d_HaulFlows_way_44 : decode b_HaulFlows_way 44 = .ok (.aload_n 0, 1) := by decide +kernel
theorem d_HaulFlows_way_45 : decode b_HaulFlows_way 45 = .ok (.getfield 12, 3) := by decide +kernel
theorem d_HaulFlows_way_48 : decode b_HaulFlows_way 48 = .ok (.getfield 81, 3) := by decide +kernel
theorem d_HaulFlows_way_51 : decode b_HaulFlows_way 51 = .ok (.lload_n 1, 1) := by decide +kernel
theorem d_HaulFlows_way_52 : decode b_HaulFlows_way 52 = .ok (.lload_n 3, 1) := by decide +kernel
theorem d_HaulFlows_way_53 : decode b_HaulFlows_way 53 = .ok (.lload 5, 2) := by decide +kernel
theorem d_HaulFlows_way_55 : decode b_HaulFlows_way 55 = .ok (.invokevirtual 90, 3) := by decide +kernel
theorem d_HaulFlows_way_58 : decode b_HaulFlows_way 58 = .ok (.ireturn, 1) := by decide +kernel
abbrev b_HaulFlows_bar : ByteArray := prog_1_method_7_code
def y_HaulFlows_bar : MethodName := ⟨R_HaulFlows, "bar", "(III)Z"⟩
def u_HaulFlows_bar : List Cond := Cond.code y_HaulFlows_bar b_HaulFlows_bar 4 (some .boolean) :: wG
theorem d_HaulFlows_bar_0 : decode b_HaulFlows_bar 0 = .ok (.iload_n 1, 1) := by decide +kernel
theorem d_HaulFlows_bar_1 : decode b_HaulFlows_bar 1 = .ok (.aload_n 0, 1) := by decide +kernel
theorem d_HaulFlows_bar_2 : decode b_HaulFlows_bar 2 = .ok (.getfield 12, 3) := by decide +kernel
theorem d_HaulFlows_bar_5 : decode b_HaulFlows_bar 5 = .ok (.getfield 81, 3) := by decide +kernel
theorem d_HaulFlows_bar_8 : decode b_HaulFlows_bar 8 = .ok (.getfield 85, 3) := by decide +kernel
theorem d_HaulFlows_bar_11 : decode b_HaulFlows_bar 11 = .ok (.invokestatic 43, 3) := by decide +kernel
theorem d_HaulFlows_bar_14 : decode b_HaulFlows_bar 14 = .ok (.ifCond .eq 26, 3) := by decide +kernel
theorem d_HaulFlows_bar_17 : decode b_HaulFlows_bar 17 = .ok (.iload_n 2, 1) := by decide +kernel
theorem d_HaulFlows_bar_18 : decode b_HaulFlows_bar 18 = .ok (.bipush 12, 2) := by decide +kernel
theorem d_HaulFlows_bar_20 : decode b_HaulFlows_bar 20 = .ok (.invokestatic 43, 3) := by decide +kernel
theorem d_HaulFlows_bar_23 : decode b_HaulFlows_bar 23 = .ok (.ifCond .eq 17, 3) := by decide +kernel
theorem d_HaulFlows_bar_26 : decode b_HaulFlows_bar 26 = .ok (.iload_n 3, 1) := by decide +kernel
theorem d_HaulFlows_bar_27 : decode b_HaulFlows_bar 27 = .ok (.bipush 12, 2) := by decide +kernel
theorem d_HaulFlows_bar_29 : decode b_HaulFlows_bar 29 = .ok (.invokestatic 43, 3) := by decide +kernel
theorem d_HaulFlows_bar_32 : decode b_HaulFlows_bar 32 = .ok (.ifCond .eq 8, 3) := by decide +kernel
theorem d_HaulFlows_bar_35 : decode b_HaulFlows_bar 35 = .ok (.iload_n 2, 1) := by decide +kernel
theorem d_HaulFlows_bar_36 : decode b_HaulFlows_bar 36 = .ok (.iload_n 3, 1) := by decide +kernel
theorem d_HaulFlows_bar_37 : decode b_HaulFlows_bar 37 = .ok (.if_icmp .le 5, 3) := by decide +kernel
theorem d_HaulFlows_bar_40 : decode b_HaulFlows_bar 40 = .ok (.iconst 0, 1) := by decide +kernel
theorem d_HaulFlows_bar_41 : decode b_HaulFlows_bar 41 = .ok (.ireturn, 1) := by decide +kernel
theorem d_HaulFlows_bar_42 : decode b_HaulFlows_bar 42 = .ok (.aload_n 0, 1) := by decide +kernel
theorem d_HaulFlows_bar_43 : decode b_HaulFlows_bar 43 = .ok (.iconst 0, 1) := by decide +kernel
theorem d_HaulFlows_bar_44 : decode b_HaulFlows_bar 44 = .ok (.putfield 35, 3) := by decide +kernel
theorem d_HaulFlows_bar_47 : decode b_HaulFlows_bar 47 = .ok (.aload_n 0, 1) := by decide +kernel
theorem d_HaulFlows_bar_48 : decode b_HaulFlows_bar 48 = .ok (.getfield 12, 3) := by decide +kernel
theorem d_HaulFlows_bar_51 : decode b_HaulFlows_bar 51 = .ok (.getfield 81, 3) := by decide +kernel
theorem d_HaulFlows_bar_54 : decode b_HaulFlows_bar 54 = .ok (.iload_n 1, 1) := by decide +kernel
theorem d_HaulFlows_bar_55 : decode b_HaulFlows_bar 55 = .ok (.iload_n 2, 1) := by decide +kernel
theorem d_HaulFlows_bar_56 : decode b_HaulFlows_bar 56 = .ok (.iload_n 3, 1) := by decide +kernel
theorem d_HaulFlows_bar_57 : decode b_HaulFlows_bar 57 = .ok (.invokevirtual 94, 3) := by decide +kernel
theorem d_HaulFlows_bar_60 : decode b_HaulFlows_bar 60 = .ok (.iconst 1, 1) := by decide +kernel
theorem d_HaulFlows_bar_61 : decode b_HaulFlows_bar 61 = .ok (.ireturn, 1) := by decide +kernel
abbrev b_HaulFlows_borrow : ByteArray := prog_1_method_8_code
def y_HaulFlows_borrow : MethodName := ⟨R_HaulFlows, "borrow", "(JJ)I"⟩
def u_HaulFlows_borrow : List Cond := Cond.code y_HaulFlows_borrow b_HaulFlows_borrow 5 (some .int) :: wG
theorem d_HaulFlows_borrow_0 : decode b_HaulFlows_borrow 0 = .ok (.lload_n 1, 1) := by decide +kernel
theorem d_HaulFlows_borrow_1 : decode b_HaulFlows_borrow 1 = .ok (.invokestatic 47, 3) := by decide +kernel
theorem d_HaulFlows_borrow_4 : decode b_HaulFlows_borrow 4 = .ok (.ifCond .eq 21, 3) := by decide +kernel
theorem d_HaulFlows_borrow_7 : decode b_HaulFlows_borrow 7 = .ok (.lload_n 3, 1) := by decide +kernel
theorem d_HaulFlows_borrow_8 : decode b_HaulFlows_borrow 8 = .ok (.invokestatic 78, 3) := by decide +kernel
theorem d_HaulFlows_borrow_11 : decode b_HaulFlows_borrow 11 = .ok (.ifCond .eq 14, 3) := by decide +kernel
theorem d_HaulFlows_borrow_14 : decode b_HaulFlows_borrow 14 = .ok (.aload_n 0, 1) := by decide +kernel
theorem d_HaulFlows_borrow_15 : decode b_HaulFlows_borrow 15 = .ok (.getfield 12, 3) := by decide +kernel
theorem d_HaulFlows_borrow_18 : decode b_HaulFlows_borrow 18 = .ok (.getfield 98, 3) := by decide +kernel
theorem d_HaulFlows_borrow_21 : decode b_HaulFlows_borrow 21 = .ok (.iconst 4, 1) := by decide +kernel
theorem d_HaulFlows_borrow_22 : decode b_HaulFlows_borrow 22 = .ok (.if_icmp .lt 5, 3) := by decide +kernel
theorem d_HaulFlows_borrow_25 : decode b_HaulFlows_borrow 25 = .ok (.iconst (-1), 1) := by decide +kernel
theorem d_HaulFlows_borrow_26 : decode b_HaulFlows_borrow 26 = .ok (.ireturn, 1) := by decide +kernel
theorem d_HaulFlows_borrow_27 : decode b_HaulFlows_borrow 27 = .ok (.aload_n 0, 1) := by decide +kernel
theorem d_HaulFlows_borrow_28 : decode b_HaulFlows_borrow 28 = .ok (.iconst 0, 1) := by decide +kernel
theorem d_HaulFlows_borrow_29 : decode b_HaulFlows_borrow 29 = .ok (.putfield 35, 3) := by decide +kernel
theorem d_HaulFlows_borrow_32 : decode b_HaulFlows_borrow 32 = .ok (.aload_n 0, 1) := by decide +kernel
theorem d_HaulFlows_borrow_33 : decode b_HaulFlows_borrow 33 = .ok (.getfield 12, 3) := by decide +kernel
theorem d_HaulFlows_borrow_36 : decode b_HaulFlows_borrow 36 = .ok (.lload_n 1, 1) := by decide +kernel
theorem d_HaulFlows_borrow_37 : decode b_HaulFlows_borrow 37 = .ok (.lload_n 3, 1) := by decide +kernel
theorem d_HaulFlows_borrow_38 : decode b_HaulFlows_borrow 38 = .ok (.invokevirtual 101, 3) := by decide +kernel
theorem d_HaulFlows_borrow_41 : decode b_HaulFlows_borrow 41 = .ok (.ireturn, 1) := by decide +kernel
abbrev b_HaulFlows_most : ByteArray := prog_1_method_9_code
def y_HaulFlows_most : MethodName := ⟨R_HaulFlows, "most", "(IJ)Z"⟩
def u_HaulFlows_most : List Cond := Cond.code y_HaulFlows_most b_HaulFlows_most 4 (some .boolean) :: wG
theorem d_HaulFlows_most_0 : decode b_HaulFlows_most 0 = .ok (.iload_n 1, 1) := by decide +kernel
theorem d_HaulFlows_most_1 : decode b_HaulFlows_most 1 = .ok (.bipush 12, 2) := by decide +kernel
theorem d_HaulFlows_most_3 : decode b_HaulFlows_most 3 = .ok (.invokestatic 43, 3) := by decide +kernel
theorem d_HaulFlows_most_6 : decode b_HaulFlows_most 6 = .ok (.ifCond .eq 17, 3) := by decide +kernel
theorem d_HaulFlows_most_9 : decode b_HaulFlows_most 9 = .ok (.lload_n 2, 1) := by decide +kernel
theorem d_HaulFlows_most_10 : decode b_HaulFlows_most 10 = .ok (.lconst 0, 1) := by decide +kernel
theorem d_HaulFlows_most_11 : decode b_HaulFlows_most 11 = .ok (.lcmp, 1) := by decide +kernel
theorem d_HaulFlows_most_12 : decode b_HaulFlows_most 12 = .ok (.ifCond .lt 11, 3) := by decide +kernel
theorem d_HaulFlows_most_15 : decode b_HaulFlows_most 15 = .ok (.lload_n 2, 1) := by decide +kernel
theorem d_HaulFlows_most_16 : decode b_HaulFlows_most 16 = .ok (.ldc2_w 105, 3) := by decide +kernel
theorem d_HaulFlows_most_19 : decode b_HaulFlows_most 19 = .ok (.lcmp, 1) := by decide +kernel
theorem d_HaulFlows_most_20 : decode b_HaulFlows_most 20 = .ok (.ifCond .le 5, 3) := by decide +kernel
theorem d_HaulFlows_most_23 : decode b_HaulFlows_most 23 = .ok (.iconst 0, 1) := by decide +kernel
theorem d_HaulFlows_most_24 : decode b_HaulFlows_most 24 = .ok (.ireturn, 1) := by decide +kernel
theorem d_HaulFlows_most_25 : decode b_HaulFlows_most 25 = .ok (.aload_n 0, 1) := by decide +kernel
theorem d_HaulFlows_most_26 : decode b_HaulFlows_most 26 = .ok (.iconst 0, 1) := by decide +kernel
theorem d_HaulFlows_most_27 : decode b_HaulFlows_most 27 = .ok (.putfield 35, 3) := by decide +kernel
theorem d_HaulFlows_most_30 : decode b_HaulFlows_most 30 = .ok (.aload_n 0, 1) := by decide +kernel
theorem d_HaulFlows_most_31 : decode b_HaulFlows_most 31 = .ok (.getfield 12, 3) := by decide +kernel
theorem d_HaulFlows_most_34 : decode b_HaulFlows_most 34 = .ok (.getfield 107, 3) := by decide +kernel
theorem d_HaulFlows_most_37 : decode b_HaulFlows_most 37 = .ok (.iload_n 1, 1) := by decide +kernel
theorem d_HaulFlows_most_38 : decode b_HaulFlows_most 38 = .ok (.lload_n 2, 1) := by decide +kernel
theorem d_HaulFlows_most_39 : decode b_HaulFlows_most 39 = .ok (.lastore, 1) := by decide +kernel
theorem d_HaulFlows_most_40 : decode b_HaulFlows_most 40 = .ok (.iconst 1, 1) := by decide +kernel
theorem d_HaulFlows_most_41 : decode b_HaulFlows_most 41 = .ok (.ireturn, 1) := by decide +kernel
def w_H (cI cJ cZ : ClassId) (a : Nat → Nat) (V0 : Nat) (aS : Nat → Nat) (aP : Nat → Nat) (aQ : Nat → Nat) (aT : Nat → Nat) : va_W :=
  [(a 0, .inr (4, [.ref (aS 0), .ref (aP 0), .ref (aQ 0), .ref (aT 0), .int (nI V0)]))]
theorem hp_below {x : Int32} {n : Nat} (hn : n < 2 ^ 31) (h : ¬ f_HaulFlows_isBelow x (nI n) = 0) : ¬ x < 0 ∧ x.toNatClampNeg < n := by
  unfold f_HaulFlows_isBelow at h
  by_cases c1 : x < 0
  · rw [if_pos c1] at h
    exact absurd nI_0 h
  · rw [if_neg c1] at h
    by_cases c2 : nI n ≤ x
    · rw [if_pos c2] at h
      exact absurd nI_0 h
    · refine ⟨c1, ?_⟩
      obtain ⟨j, hj, rfl⟩ := nI_of c1
      rw [nI_clamp hj]
      rcases Nat.lt_or_ge j n with q | q
      · exact q
      · exact absurd (nI_le q hj) c2
theorem hw_ti {x : Int32} (k : Nat) (hk : k < 2 ^ 31) (h : ¬ x = nI k) : x.toInt ≠ (k : Int) := by
  intro e
  apply h
  apply Int32.toInt_inj.mp
  rw [nI_toInt hk]
  exact e
theorem hp_cheap7 {y2 : (Nat) × (Nat) × (Nat → Int64) × (Nat → Int64) × (Nat → Int64) × (Nat → Int64)} {LS4 : Nat → Int64} : ∀ (n x2 : Nat) (L1 L2 L3 L4 : Nat → Int64) (I0 I1 : Nat → Int32),
    (f_Plan_makeCheapest_h7 y2 LS4 (f_Plan_makeCheapest_x7 y2) n x2 L1 L2 L3 L4 I0 I1).2.1 = y2.1 ∧ (f_Plan_makeCheapest_h7 y2 LS4 (f_Plan_makeCheapest_x7 y2) n x2 L1 L2 L3 L4 I0 I1).2.2.1 = y2.2.1 := by
  intro n
  induction n with
  | zero => exact fun _ _ _ _ _ _ _ => ⟨rfl, rfl⟩
  | succ n ih =>
    intro x2 L1 L2 L3 L4 I0 I1
    rw [f_Plan_makeCheapest_h7]
    unfold f_Plan_makeCheapest_h7B
    by_cases c1 : y2.2.1 ≤ x2
    · rw [if_pos c1]
      exact ⟨rfl, rfl⟩
    · rw [if_neg c1, hh_bind]
      by_cases c2 : (f_Plan_serve y2.1 y2.2.1 y2.2.2.1 L1 L2 L3 L4 I0 I1 LS4 x2).1 = 0
      · rw [if_pos c2]
        exact ⟨rfl, rfl⟩
      · rw [if_neg c2]
        exact ih _ _ _ _ _ _ _
theorem f_Plan_makeCheapest_vs (LP0 LP1 LP2 LP3 LP4 : Nat → Int64) (IP0 IP1 : Nat → Int32) (VS0 VS1 VS2 : Nat) (NS0 NS1 NS2 : Nat → Nat) (LS0 LS1 LS2 LS3 LS4 LS5 LS6 LS7 : Nat → Int64) (IS0 : Nat → Int32) (VY0 : Nat) (LY0 LY1 LY2 : Nat → Int64) (IY0 : Nat → Int32) (x1 : Int32) :
    (f_Plan_makeCheapest LP0 LP1 LP2 LP3 LP4 IP0 IP1 VS0 VS1 VS2 NS0 NS1 NS2 LS0 LS1 LS2 LS3 LS4 LS5 LS6 LS7 IS0 VY0 LY0 LY1 LY2 IY0 x1).2.1 = VS0 + VS1 ∧ (f_Plan_makeCheapest LP0 LP1 LP2 LP3 LP4 IP0 IP1 VS0 VS1 VS2 NS0 NS1 NS2 LS0 LS1 LS2 LS3 LS4 LS5 LS6 LS7 IS0 VY0 LY0 LY1 LY2 IY0 x1).2.2.1 = VS2 := by
  unfold f_Plan_makeCheapest
  rw [hh_bind]
  have h := f_Plan_clear_vs LP0 LP1 LP2 LP3 VS0 VS1 VS2 NS0 NS1 NS2 LS0 LS1 LS2 LS3 LS5 LS6 LS7 IS0 VY0 LY0 LY1 LY2 IY0 x1
  refine ⟨(hp_cheap7 9 0 _ _ _ _ _ _).1.trans h.1, (hp_cheap7 9 0 _ _ _ _ _ _).2.trans h.2⟩
def f_HaulFlows_cut (VH0 : Nat) (VS0 : Nat) (NS0 : Nat → Nat) (NS1 : Nat → Nat) (LS0 : Nat → Int64) (LS1 : Nat → Int64) (x1 : Int64) (x3 : Int32) (x4 : Int32) (x5 : Int64) : Int32 × (Nat) × (Nat) × (Nat → Nat) × (Nat → Nat) × (Nat → Int64) × (Nat → Int64) :=
  hh_bind (f_HaulFlows_isVolume x1) (fun y1 => if y1 = 0 then ((-1), VH0, VS0, NS0, NS1, LS0, LS1) else (hh_bind (f_HaulFlows_isBelow x3 (nI 4)) (fun y9 => if y9 = 0 then ((-1), VH0, VS0, NS0, NS1, LS0, LS1) else (hh_bind (f_HaulFlows_isBelow x4 (nI 12)) (fun y19 => if y19 = 0 then ((-1), VH0, VS0, NS0, NS1, LS0, LS1) else (hh_bind (f_HaulFlows_isMetre x5) (fun y27 => if y27 = 0 then ((-1), VH0, VS0, NS0, NS1, LS0, LS1) else (if VS0 < 8 then (hh_bind (f_Site_addCut VS0 NS0 NS1 LS0 LS1 x1 x3.toNatClampNeg x4.toNatClampNeg x5) (fun y62 => (nI y62.1, 0, y62.2.1, y62.2.2.1, y62.2.2.2.1, y62.2.2.2.2.1, y62.2.2.2.2.2))) else ((-1), VH0, VS0, NS0, NS1, LS0, LS1)))))))))
set_option maxHeartbeats 4000000 in
set_option maxRecDepth 100000 in
theorem c_HaulFlows_cut (l : Launch) (dC : Nat → ClassId) (dI : Nat → Nat → Nat) (cI cJ cZ : ClassId) (sz : Nat) (aH : Nat → Nat) (VH0 : Nat) (aS : Nat → Nat) (VS0 : Nat) (VS1 : Nat) (VS2 : Nat) (NS0 : Nat → Nat) (NS1 : Nat → Nat) (NS2 : Nat → Nat) (LS0 : Nat → Int64) (LS1 : Nat → Int64) (LS2 : Nat → Int64) (LS3 : Nat → Int64) (LS4 : Nat → Int64) (LS5 : Nat → Int64) (LS6 : Nat → Int64) (LS7 : Nat → Int64) (LS8 : Nat → Int64) (IS0 : Nat → Int32) (aY : Nat → Nat) (VY0 : Nat) (LY0 : Nat → Int64) (LY1 : Nat → Int64) (LY2 : Nat → Int64) (IY0 : Nat → Int32) (aP : Nat → Nat) (VP0 : Nat) (VP1 : Nat) (VP2 : Nat) (NP0 : Nat → Nat) (LP0 : Nat → Int64) (LP1 : Nat → Int64) (LP2 : Nat → Int64) (LP3 : Nat → Int64) (LP4 : Nat → Int64) (IP0 : Nat → Int32) (IP1 : Nat → Int32) (aQ : Nat → Nat) (VQ0 : Nat) (VQ1 : Nat) (VQ2 : Nat) (NQ0 : Nat → Nat) (LQ0 : Nat → Int64) (LQ1 : Nat → Int64) (LQ2 : Nat → Int64) (LQ3 : Nat → Int64) (LQ4 : Nat → Int64) (IQ0 : Nat → Int32) (IQ1 : Nat → Int32) (aT : Nat → Nat) (VT0 : Nat) (NT0 : Nat → Nat) (NT1 : Nat → Nat) (LT0 : Nat → Int64) (IT0 : Nat → Int32) (x1 : Int64) (x3 : Int32) (x4 : Int32) (x5 : Int64) (hc8 : VS0 ≤ 8) (hp4 : VS1 ≤ 4) (hf8 : VS2 ≤ 8) (hy6 : VY0 ≤ 6) (hk4 : ∀ i, NS0 i < 4) (hcw : ∀ i, NS1 i < 12) (hfw : ∀ i, NS2 i < 12) (hq : ∀ i, NP0 i < 21) (htq : ∀ i, NT1 i < 34) (hst : VH0 ≤ 2) (hpl : VH0 = 1 → VP0 = VS0 + VS1 ∧ VP1 = VS2) (hsf : VT0 ≤ 8) : hh_Ci l y_HaulFlows_cut u_HaulFlows_cut ({ frames := 1, cells := 0, slots := 0, locals := 26 }) (dC, dI) vwCl [(cI, .int), (cJ, .long), (cZ, .boolean)] (w_H cI cJ cZ aH VH0 aS aP aQ aT ++ w_S cI cJ cZ aS VS0 VS1 VS2 NS0 NS1 NS2 LS0 LS1 LS2 LS3 LS4 LS5 LS6 LS7 LS8 IS0 aY ++ w_Y cI cJ cZ aY VY0 LY0 LY1 LY2 IY0 ++ w_P cI cJ cZ aP VP0 VP1 VP2 NP0 LP0 LP1 LP2 LP3 LP4 IP0 IP1 aS ++ w_P cI cJ cZ aQ VQ0 VQ1 VQ2 NQ0 LQ0 LQ1 LQ2 LQ3 LQ4 IQ0 IQ1 aS ++ w_T cI cJ cZ aT VT0 NT0 NT1 LT0 IT0 aS) sz [.ref (aH 0), .long x1, .int x3, .int x4, .long x5] ((f_HaulFlows_cut VH0 VS0 NS0 NS1 LS0 LS1 x1 x3 x4 x5).1) (w_H cI cJ cZ aH ((f_HaulFlows_cut VH0 VS0 NS0 NS1 LS0 LS1 x1 x3 x4 x5).2.1) aS aP aQ aT ++ w_S cI cJ cZ aS ((f_HaulFlows_cut VH0 VS0 NS0 NS1 LS0 LS1 x1 x3 x4 x5).2.2.1) VS1 VS2 ((f_HaulFlows_cut VH0 VS0 NS0 NS1 LS0 LS1 x1 x3 x4 x5).2.2.2.1) ((f_HaulFlows_cut VH0 VS0 NS0 NS1 LS0 LS1 x1 x3 x4 x5).2.2.2.2.1) NS2 ((f_HaulFlows_cut VH0 VS0 NS0 NS1 LS0 LS1 x1 x3 x4 x5).2.2.2.2.2.1) ((f_HaulFlows_cut VH0 VS0 NS0 NS1 LS0 LS1 x1 x3 x4 x5).2.2.2.2.2.2) LS2 LS3 LS4 LS5 LS6 LS7 LS8 IS0 aY ++ w_Y cI cJ cZ aY VY0 LY0 LY1 LY2 IY0 ++ w_P cI cJ cZ aP VP0 VP1 VP2 NP0 LP0 LP1 LP2 LP3 LP4 IP0 IP1 aS ++ w_P cI cJ cZ aQ VQ0 VQ1 VQ2 NQ0 LQ0 LQ1 LQ2 LQ3 LQ4 IQ0 IQ1 aS ++ w_T cI cJ cZ aT VT0 NT0 NT1 LT0 IT0 aS) 0 0 := by
  unfold hh_Ci
  refine Met.ofW (cc := b_HaulFlows_cut) (maxL := 7) (ret := (some .int)) (by decide) rfl ?_
  intro p e s m args below meth c s₁ B hml hv
  obtain ⟨rfl, hsz, hP, hK, hD0⟩ := hv
  have hx := B.exec
  have hb := B.bytes
  have hr := B.returns
  have hts := atoms_spec (ws := u_HaulFlows_cut) B.pre
  have hG : ∀ w ∈ wG, w.before ([.ref (aH 0), .long x1, .int x3, .int x4, .long x5]).toArray s = true := fun w h => hts w (List.mem_cons_of_mem _ h)
  have hown : s.vm.findClass R_HaulFlows = some m.cls := findClass_of_methodNamed B.named
  have hlocks := B.notSynchronized
  subst hsz
  have hD := hD0.self (sz := s.heap.size)
  generalize hAe : va_A (w_H cI cJ cZ aH VH0 aS aP aQ aT ++ w_S cI cJ cZ aS VS0 VS1 VS2 NS0 NS1 NS2 LS0 LS1 LS2 LS3 LS4 LS5 LS6 LS7 LS8 IS0 aY ++ w_Y cI cJ cZ aY VY0 LY0 LY1 LY2 IY0 ++ w_P cI cJ cZ aP VP0 VP1 VP2 NP0 LP0 LP1 LP2 LP3 LP4 IP0 IP1 aS ++ w_P cI cJ cZ aQ VQ0 VQ1 VQ2 NQ0 LQ0 LQ1 LQ2 LQ3 LQ4 IQ0 IQ1 aS ++ w_T cI cJ cZ aT VT0 NT0 NT1 LT0 IT0 aS) s.heap.size = A at hD ⊢
  have hA : ∀ q : Nat, s.heap.size ≤ q → A q := fun q h => by rw [← hAe]; exact Or.inr h
  have hS : va_S A s.heap s.heap [] := va_S.rf
  have hl := lv_entry ([.ref (aH 0), .long x1, .int x3, .int x4, .long x5]) (n := 7) (Nat.le_of_ble_eq_true rfl)
  rw [lg_entry_eq]
  generalize (lg_sl ([.ref (aH 0), .long x1, .int x3, .int x4, .long x5]) ++ List.replicate (7 - (lg_sl ([.ref (aH 0), .long x1, .int x3, .int x4, .long x5])).length) Slot.unset).toArray = ls at hl ⊢
  have hl : lv_has ls 7 [(0, .ref (aH 0)), (1, .long x1), (3, .int x3), (4, .int x4), (5, .long x5)] := hl
  generalize hR : f_HaulFlows_cut VH0 VS0 NS0 NS1 LS0 LS1 x1 x3 x4 x5 = r0
  obtain ⟨H, locs, hHe, hle⟩ : ∃ (H : Heap) (locs : List Loc), s.heap = H ∧ [] = locs := ⟨_, _, rfl, rfl⟩
  have hP : va_P (dC, dI) vwCl (w_H cI cJ cZ aH VH0 aS aP aQ aT ++ w_S cI cJ cZ aS VS0 VS1 VS2 NS0 NS1 NS2 LS0 LS1 LS2 LS3 LS4 LS5 LS6 LS7 LS8 IS0 aY ++ w_Y cI cJ cZ aY VY0 LY0 LY1 LY2 IY0 ++ w_P cI cJ cZ aP VP0 VP1 VP2 NP0 LP0 LP1 LP2 LP3 LP4 IP0 IP1 aS ++ w_P cI cJ cZ aQ VQ0 VQ1 VQ2 NQ0 LQ0 LQ1 LQ2 LQ3 LQ4 IQ0 IQ1 aS ++ w_T cI cJ cZ aT VT0 NT0 NT1 LT0 IT0 aS) H := by rw [← hHe]; exact hP
  have hS : va_S A s.heap H locs := by rw [← hHe, ← hle]; exact hS
  refine hw_start hHe hle ?_
  unfold f_HaulFlows_cut at hR
  refine lv_lload_n hx hb d_HaulFlows_cut_0 rfl (lv_at hl 1 rfl) ?_
  obtain ⟨y1, hy1, hR⟩ := hw_bind hR
  have hM := c_HaulFlows_isVolume l dC dI cI cJ cZ H.size x1
  rw [hy1] at hM
  refine hw_callSi (As := [.long x1]) (rest := []) (wr := w_H cI cJ cZ aH VH0 aS aP aQ aT ++ w_S cI cJ cZ aS VS0 VS1 VS2 NS0 NS1 NS2 LS0 LS1 LS2 LS3 LS4 LS5 LS6 LS7 LS8 IS0 aY ++ w_Y cI cJ cZ aY VY0 LY0 LY1 LY2 IY0 ++ w_P cI cJ cZ aP VP0 VP1 VP2 NP0 LP0 LP1 LP2 LP3 LP4 IP0 IP1 aS ++ w_P cI cJ cZ aQ VQ0 VQ1 VQ2 NQ0 LQ0 LQ1 LQ2 LQ3 LQ4 IQ0 IQ1 aS ++ w_T cI cJ cZ aT VT0 NT0 NT1 LT0 IT0 aS) ⟨hx, hb, hml, hown, hG⟩ hM (hw_cwS 1 hG m_216 m_217 m_1 m_218 rfl rfl (by decide +kernel) ⟨Nat.le_of_ble_eq_true rfl, Nat.le_of_ble_eq_true rfl⟩) hK hP hD hS hA [] [0, 1, 2, 3, 4, 5, 6, 7, 8, 9, 10, 11, 12, 13, 14, 15, 16, 17, 18, 19, 20, 21, 22, 23, 24, 25, 26, 27, 28, 29, 30, 31, 32, 33, 34, 35, 36, 37, 38, 39, 40, 41, 42] rfl rfl (by decide) (by decide) (by decide) rfl hl.1 rfl (Nat.le_of_ble_eq_true rfl) d_HaulFlows_cut_1 ⟨Nat.le_of_ble_eq_true rfl, Nat.le_of_ble_eq_true rfl⟩ (fun H locs hP hD hS => ?_)
  have hP : va_P (dC, dI) vwCl (w_H cI cJ cZ aH VH0 aS aP aQ aT ++ w_S cI cJ cZ aS VS0 VS1 VS2 NS0 NS1 NS2 LS0 LS1 LS2 LS3 LS4 LS5 LS6 LS7 LS8 IS0 aY ++ w_Y cI cJ cZ aY VY0 LY0 LY1 LY2 IY0 ++ w_P cI cJ cZ aP VP0 VP1 VP2 NP0 LP0 LP1 LP2 LP3 LP4 IP0 IP1 aS ++ w_P cI cJ cZ aQ VQ0 VQ1 VQ2 NQ0 LQ0 LQ1 LQ2 LQ3 LQ4 IQ0 IQ1 aS ++ w_T cI cJ cZ aT VT0 NT0 NT1 LT0 IT0 aS) H := hP
  have hD : va_D A (w_H cI cJ cZ aH VH0 aS aP aQ aT ++ w_S cI cJ cZ aS VS0 VS1 VS2 NS0 NS1 NS2 LS0 LS1 LS2 LS3 LS4 LS5 LS6 LS7 LS8 IS0 aY ++ w_Y cI cJ cZ aY VY0 LY0 LY1 LY2 IY0 ++ w_P cI cJ cZ aP VP0 VP1 VP2 NP0 LP0 LP1 LP2 LP3 LP4 IP0 IP1 aS ++ w_P cI cJ cZ aQ VQ0 VQ1 VQ2 NQ0 LQ0 LQ1 LQ2 LQ3 LQ4 IQ0 IQ1 aS ++ w_T cI cJ cZ aT VT0 NT0 NT1 LT0 IT0 aS) := hD
  refine lv_if_eq (tgt := 45) hx hb d_HaulFlows_cut_4 (by decide) (fun c4 => ?_) (fun c4 => ?_)
  · replace hR := (if_pos c4).symm.trans hR
    refine lv_iconst (v := (-1)) hx hb d_HaulFlows_cut_45 (by decide) ?_
    subst hR
    exact W.iret (v := (-1)) hx hb hr (fun t ht hW => ⟨⟨_, (), rfl, rfl, by rw [ht]; exact hP, va_K.moved hW.alike hK, hD⟩, hS.F ht⟩) hS.2.2 d_HaulFlows_cut_46
  · replace hR := (if_neg c4).symm.trans hR
    refine lv_iload_n hx hb d_HaulFlows_cut_7 rfl (lv_at hl 2 rfl) ?_
    refine lv_iconst (v := nI 4) hx hb d_HaulFlows_cut_8 (by decide) ?_
    obtain ⟨y9, hy9, hR⟩ := hw_bind hR
    have hM := c_HaulFlows_isBelow l dC dI cI cJ cZ H.size x3 (nI 4)
    rw [hy9] at hM
    refine hw_callSi (As := [.int x3, .int (nI 4)]) (rest := []) (wr := w_H cI cJ cZ aH VH0 aS aP aQ aT ++ w_S cI cJ cZ aS VS0 VS1 VS2 NS0 NS1 NS2 LS0 LS1 LS2 LS3 LS4 LS5 LS6 LS7 LS8 IS0 aY ++ w_Y cI cJ cZ aY VY0 LY0 LY1 LY2 IY0 ++ w_P cI cJ cZ aP VP0 VP1 VP2 NP0 LP0 LP1 LP2 LP3 LP4 IP0 IP1 aS ++ w_P cI cJ cZ aQ VQ0 VQ1 VQ2 NQ0 LQ0 LQ1 LQ2 LQ3 LQ4 IQ0 IQ1 aS ++ w_T cI cJ cZ aT VT0 NT0 NT1 LT0 IT0 aS) ⟨hx, hb, hml, hown, hG⟩ hM (hw_cwS 2 hG m_220 m_221 m_1 m_222 rfl rfl (by decide +kernel) ⟨Nat.le_of_ble_eq_true rfl, Nat.le_of_ble_eq_true rfl⟩) hK hP hD hS hA [] [0, 1, 2, 3, 4, 5, 6, 7, 8, 9, 10, 11, 12, 13, 14, 15, 16, 17, 18, 19, 20, 21, 22, 23, 24, 25, 26, 27, 28, 29, 30, 31, 32, 33, 34, 35, 36, 37, 38, 39, 40, 41, 42] rfl rfl (by decide) (by decide) (by decide) rfl hl.1 rfl (Nat.le_of_ble_eq_true rfl) d_HaulFlows_cut_9 ⟨Nat.le_of_ble_eq_true rfl, Nat.le_of_ble_eq_true rfl⟩ (fun H locs hP hD hS => ?_)
    have hP : va_P (dC, dI) vwCl (w_H cI cJ cZ aH VH0 aS aP aQ aT ++ w_S cI cJ cZ aS VS0 VS1 VS2 NS0 NS1 NS2 LS0 LS1 LS2 LS3 LS4 LS5 LS6 LS7 LS8 IS0 aY ++ w_Y cI cJ cZ aY VY0 LY0 LY1 LY2 IY0 ++ w_P cI cJ cZ aP VP0 VP1 VP2 NP0 LP0 LP1 LP2 LP3 LP4 IP0 IP1 aS ++ w_P cI cJ cZ aQ VQ0 VQ1 VQ2 NQ0 LQ0 LQ1 LQ2 LQ3 LQ4 IQ0 IQ1 aS ++ w_T cI cJ cZ aT VT0 NT0 NT1 LT0 IT0 aS) H := hP
    have hD : va_D A (w_H cI cJ cZ aH VH0 aS aP aQ aT ++ w_S cI cJ cZ aS VS0 VS1 VS2 NS0 NS1 NS2 LS0 LS1 LS2 LS3 LS4 LS5 LS6 LS7 LS8 IS0 aY ++ w_Y cI cJ cZ aY VY0 LY0 LY1 LY2 IY0 ++ w_P cI cJ cZ aP VP0 VP1 VP2 NP0 LP0 LP1 LP2 LP3 LP4 IP0 IP1 aS ++ w_P cI cJ cZ aQ VQ0 VQ1 VQ2 NQ0 LQ0 LQ1 LQ2 LQ3 LQ4 IQ0 IQ1 aS ++ w_T cI cJ cZ aT VT0 NT0 NT1 LT0 IT0 aS) := hD
    have hbl9 := hp_below (x := x3) (n := 4) (by omega)
    rw [hy9] at hbl9
    refine lv_if_eq (tgt := 45) hx hb d_HaulFlows_cut_12 (by decide) (fun c12 => ?_) (fun c12 => ?_)
    · replace hR := (if_pos c12).symm.trans hR
      refine lv_iconst (v := (-1)) hx hb d_HaulFlows_cut_45 (by decide) ?_
      subst hR
      exact W.iret (v := (-1)) hx hb hr (fun t ht hW => ⟨⟨_, (), rfl, rfl, by rw [ht]; exact hP, va_K.moved hW.alike hK, hD⟩, hS.F ht⟩) hS.2.2 d_HaulFlows_cut_46
    · replace hR := (if_neg c12).symm.trans hR
      refine lv_iload hx hb d_HaulFlows_cut_15 (lv_at hl 3 rfl) ?_
      refine lv_bipush (v := nI 12) hx hb d_HaulFlows_cut_17 (by decide) ?_
      obtain ⟨y19, hy19, hR⟩ := hw_bind hR
      have hM := c_HaulFlows_isBelow l dC dI cI cJ cZ H.size x4 (nI 12)
      rw [hy19] at hM
      refine hw_callSi (As := [.int x4, .int (nI 12)]) (rest := []) (wr := w_H cI cJ cZ aH VH0 aS aP aQ aT ++ w_S cI cJ cZ aS VS0 VS1 VS2 NS0 NS1 NS2 LS0 LS1 LS2 LS3 LS4 LS5 LS6 LS7 LS8 IS0 aY ++ w_Y cI cJ cZ aY VY0 LY0 LY1 LY2 IY0 ++ w_P cI cJ cZ aP VP0 VP1 VP2 NP0 LP0 LP1 LP2 LP3 LP4 IP0 IP1 aS ++ w_P cI cJ cZ aQ VQ0 VQ1 VQ2 NQ0 LQ0 LQ1 LQ2 LQ3 LQ4 IQ0 IQ1 aS ++ w_T cI cJ cZ aT VT0 NT0 NT1 LT0 IT0 aS) ⟨hx, hb, hml, hown, hG⟩ hM (hw_cwS 2 hG m_220 m_221 m_1 m_222 rfl rfl (by decide +kernel) ⟨Nat.le_of_ble_eq_true rfl, Nat.le_of_ble_eq_true rfl⟩) hK hP hD hS hA [] [0, 1, 2, 3, 4, 5, 6, 7, 8, 9, 10, 11, 12, 13, 14, 15, 16, 17, 18, 19, 20, 21, 22, 23, 24, 25, 26, 27, 28, 29, 30, 31, 32, 33, 34, 35, 36, 37, 38, 39, 40, 41, 42] rfl rfl (by decide) (by decide) (by decide) rfl hl.1 rfl (Nat.le_of_ble_eq_true rfl) d_HaulFlows_cut_19 ⟨Nat.le_of_ble_eq_true rfl, Nat.le_of_ble_eq_true rfl⟩ (fun H locs hP hD hS => ?_)
      have hP : va_P (dC, dI) vwCl (w_H cI cJ cZ aH VH0 aS aP aQ aT ++ w_S cI cJ cZ aS VS0 VS1 VS2 NS0 NS1 NS2 LS0 LS1 LS2 LS3 LS4 LS5 LS6 LS7 LS8 IS0 aY ++ w_Y cI cJ cZ aY VY0 LY0 LY1 LY2 IY0 ++ w_P cI cJ cZ aP VP0 VP1 VP2 NP0 LP0 LP1 LP2 LP3 LP4 IP0 IP1 aS ++ w_P cI cJ cZ aQ VQ0 VQ1 VQ2 NQ0 LQ0 LQ1 LQ2 LQ3 LQ4 IQ0 IQ1 aS ++ w_T cI cJ cZ aT VT0 NT0 NT1 LT0 IT0 aS) H := hP
      have hD : va_D A (w_H cI cJ cZ aH VH0 aS aP aQ aT ++ w_S cI cJ cZ aS VS0 VS1 VS2 NS0 NS1 NS2 LS0 LS1 LS2 LS3 LS4 LS5 LS6 LS7 LS8 IS0 aY ++ w_Y cI cJ cZ aY VY0 LY0 LY1 LY2 IY0 ++ w_P cI cJ cZ aP VP0 VP1 VP2 NP0 LP0 LP1 LP2 LP3 LP4 IP0 IP1 aS ++ w_P cI cJ cZ aQ VQ0 VQ1 VQ2 NQ0 LQ0 LQ1 LQ2 LQ3 LQ4 IQ0 IQ1 aS ++ w_T cI cJ cZ aT VT0 NT0 NT1 LT0 IT0 aS) := hD
      have hbl19 := hp_below (x := x4) (n := 12) (by omega)
      rw [hy19] at hbl19
      refine lv_if_eq (tgt := 45) hx hb d_HaulFlows_cut_22 (by decide) (fun c22 => ?_) (fun c22 => ?_)
      · replace hR := (if_pos c22).symm.trans hR
        refine lv_iconst (v := (-1)) hx hb d_HaulFlows_cut_45 (by decide) ?_
        subst hR
        exact W.iret (v := (-1)) hx hb hr (fun t ht hW => ⟨⟨_, (), rfl, rfl, by rw [ht]; exact hP, va_K.moved hW.alike hK, hD⟩, hS.F ht⟩) hS.2.2 d_HaulFlows_cut_46
      · replace hR := (if_neg c22).symm.trans hR
        refine lv_lload hx hb d_HaulFlows_cut_25 (lv_at hl 4 rfl) ?_
        obtain ⟨y27, hy27, hR⟩ := hw_bind hR
        have hM := c_HaulFlows_isMetre l dC dI cI cJ cZ H.size x5
        rw [hy27] at hM
        refine hw_callSi (As := [.long x5]) (rest := []) (wr := w_H cI cJ cZ aH VH0 aS aP aQ aT ++ w_S cI cJ cZ aS VS0 VS1 VS2 NS0 NS1 NS2 LS0 LS1 LS2 LS3 LS4 LS5 LS6 LS7 LS8 IS0 aY ++ w_Y cI cJ cZ aY VY0 LY0 LY1 LY2 IY0 ++ w_P cI cJ cZ aP VP0 VP1 VP2 NP0 LP0 LP1 LP2 LP3 LP4 IP0 IP1 aS ++ w_P cI cJ cZ aQ VQ0 VQ1 VQ2 NQ0 LQ0 LQ1 LQ2 LQ3 LQ4 IQ0 IQ1 aS ++ w_T cI cJ cZ aT VT0 NT0 NT1 LT0 IT0 aS) ⟨hx, hb, hml, hown, hG⟩ hM (hw_cwS 1 hG m_223 m_224 m_1 m_225 rfl rfl (by decide +kernel) ⟨Nat.le_of_ble_eq_true rfl, Nat.le_of_ble_eq_true rfl⟩) hK hP hD hS hA [] [0, 1, 2, 3, 4, 5, 6, 7, 8, 9, 10, 11, 12, 13, 14, 15, 16, 17, 18, 19, 20, 21, 22, 23, 24, 25, 26, 27, 28, 29, 30, 31, 32, 33, 34, 35, 36, 37, 38, 39, 40, 41, 42] rfl rfl (by decide) (by decide) (by decide) rfl hl.1 rfl (Nat.le_of_ble_eq_true rfl) d_HaulFlows_cut_27 ⟨Nat.le_of_ble_eq_true rfl, Nat.le_of_ble_eq_true rfl⟩ (fun H locs hP hD hS => ?_)
        have hP : va_P (dC, dI) vwCl (w_H cI cJ cZ aH VH0 aS aP aQ aT ++ w_S cI cJ cZ aS VS0 VS1 VS2 NS0 NS1 NS2 LS0 LS1 LS2 LS3 LS4 LS5 LS6 LS7 LS8 IS0 aY ++ w_Y cI cJ cZ aY VY0 LY0 LY1 LY2 IY0 ++ w_P cI cJ cZ aP VP0 VP1 VP2 NP0 LP0 LP1 LP2 LP3 LP4 IP0 IP1 aS ++ w_P cI cJ cZ aQ VQ0 VQ1 VQ2 NQ0 LQ0 LQ1 LQ2 LQ3 LQ4 IQ0 IQ1 aS ++ w_T cI cJ cZ aT VT0 NT0 NT1 LT0 IT0 aS) H := hP
        have hD : va_D A (w_H cI cJ cZ aH VH0 aS aP aQ aT ++ w_S cI cJ cZ aS VS0 VS1 VS2 NS0 NS1 NS2 LS0 LS1 LS2 LS3 LS4 LS5 LS6 LS7 LS8 IS0 aY ++ w_Y cI cJ cZ aY VY0 LY0 LY1 LY2 IY0 ++ w_P cI cJ cZ aP VP0 VP1 VP2 NP0 LP0 LP1 LP2 LP3 LP4 IP0 IP1 aS ++ w_P cI cJ cZ aQ VQ0 VQ1 VQ2 NQ0 LQ0 LQ1 LQ2 LQ3 LQ4 IQ0 IQ1 aS ++ w_T cI cJ cZ aT VT0 NT0 NT1 LT0 IT0 aS) := hD
        refine lv_if_eq (tgt := 45) hx hb d_HaulFlows_cut_30 (by decide) (fun c30 => ?_) (fun c30 => ?_)
        · replace hR := (if_pos c30).symm.trans hR
          refine lv_iconst (v := (-1)) hx hb d_HaulFlows_cut_45 (by decide) ?_
          subst hR
          exact W.iret (v := (-1)) hx hb hr (fun t ht hW => ⟨⟨_, (), rfl, rfl, by rw [ht]; exact hP, va_K.moved hW.alike hK, hD⟩, hS.F ht⟩) hS.2.2 d_HaulFlows_cut_46
        · replace hR := (if_neg c30).symm.trans hR
          refine lv_aload_n hx hb d_HaulFlows_cut_33 rfl (lv_at hl 0 rfl) ?_
          refine va_get (D := (dC, dI)) (ci := 4) (v := .ref (aS 0)) (C := R_HaulFlows) (T := T_HaulFlows) (N := 5) hx hb hG in_HaulFlows hown hK hP 0 rfl rfl 0 (by decide) (hG _ m_196) (fun _ h9 => h9) rfl d_HaulFlows_cut_34 ?_
          refine va_get (D := (dC, dI)) (ci := 2) (v := .int (nI VS0)) (C := R_Site) (T := T_Site) (N := 17) hx hb hG in_Site hown hK hP 1 rfl rfl 0 (by decide) (hG _ m_57) (fun _ h9 => h9) rfl d_HaulFlows_cut_37 ?_
          refine lv_bipush (v := nI 8) hx hb d_HaulFlows_cut_40 (by decide) ?_
          refine hw_icmp_lt (tgt := 47) hx hb d_HaulFlows_cut_42 (by decide) (by omega) (by omega) (fun c42 => ?_) (fun c42 => ?_)
          · replace hR := (if_pos c42).symm.trans hR
            obtain ⟨hna3, hnb3⟩ := hbl9 c12
            obtain ⟨hna4, hnb4⟩ := hbl19 c22
            have en47_3 : nI (x3.toNatClampNeg) = x3 := hw_nat hna3
            have hl : lv_has ls 7 [(0, .ref (aH 0)), (1, .long x1), (3, .int (nI x3.toNatClampNeg)), (4, .int x4), (5, .long x5)] := by rw [en47_3]; exact hl
            have en47_4 : nI (x4.toNatClampNeg) = x4 := hw_nat hna4
            have hl : lv_has ls 7 [(0, .ref (aH 0)), (1, .long x1), (3, .int (nI x3.toNatClampNeg)), (4, .int (nI x4.toNatClampNeg)), (5, .long x5)] := by rw [en47_4]; exact hl
            refine lv_aload_n hx hb d_HaulFlows_cut_47 rfl (lv_at hl 0 rfl) ?_
            refine lv_iconst (v := nI 0) hx hb d_HaulFlows_cut_48 (by decide) ?_
            refine va_put (D := (dC, dI)) (ci := 4) (v := .int (nI 0)) (ty := .int) (C := R_HaulFlows) (T := T_HaulFlows) (N := 5) hx hb hG in_HaulFlows ty_HaulFlows tok_HaulFlows nok_HaulFlows hown hK hP hD hS 0 rfl rfl 4 (by decide) (hG _ m_200) (fun _ h9 => h9) rfl (by decide +kernel) rfl rfl (Nat.le_of_ble_eq_true rfl) d_HaulFlows_cut_49 (fun H locs hP hD hS => ?_)
            have hP : va_P (dC, dI) vwCl (w_H cI cJ cZ aH 0 aS aP aQ aT ++ w_S cI cJ cZ aS VS0 VS1 VS2 NS0 NS1 NS2 LS0 LS1 LS2 LS3 LS4 LS5 LS6 LS7 LS8 IS0 aY ++ w_Y cI cJ cZ aY VY0 LY0 LY1 LY2 IY0 ++ w_P cI cJ cZ aP VP0 VP1 VP2 NP0 LP0 LP1 LP2 LP3 LP4 IP0 IP1 aS ++ w_P cI cJ cZ aQ VQ0 VQ1 VQ2 NQ0 LQ0 LQ1 LQ2 LQ3 LQ4 IQ0 IQ1 aS ++ w_T cI cJ cZ aT VT0 NT0 NT1 LT0 IT0 aS) H := hP
            have hD : va_D A (w_H cI cJ cZ aH 0 aS aP aQ aT ++ w_S cI cJ cZ aS VS0 VS1 VS2 NS0 NS1 NS2 LS0 LS1 LS2 LS3 LS4 LS5 LS6 LS7 LS8 IS0 aY ++ w_Y cI cJ cZ aY VY0 LY0 LY1 LY2 IY0 ++ w_P cI cJ cZ aP VP0 VP1 VP2 NP0 LP0 LP1 LP2 LP3 LP4 IP0 IP1 aS ++ w_P cI cJ cZ aQ VQ0 VQ1 VQ2 NQ0 LQ0 LQ1 LQ2 LQ3 LQ4 IQ0 IQ1 aS ++ w_T cI cJ cZ aT VT0 NT0 NT1 LT0 IT0 aS) := hD
            refine lv_aload_n hx hb d_HaulFlows_cut_52 rfl (lv_at hl 0 rfl) ?_
            refine va_get (D := (dC, dI)) (ci := 4) (v := .ref (aS 0)) (C := R_HaulFlows) (T := T_HaulFlows) (N := 5) hx hb hG in_HaulFlows hown hK hP 0 rfl rfl 0 (by decide) (hG _ m_196) (fun _ h9 => h9) rfl d_HaulFlows_cut_53 ?_
            refine lv_lload_n hx hb d_HaulFlows_cut_56 rfl (lv_at hl 1 rfl) ?_
            refine lv_iload_n hx hb d_HaulFlows_cut_57 rfl (lv_at hl 2 rfl) ?_
            refine lv_iload hx hb d_HaulFlows_cut_58 (lv_at hl 3 rfl) ?_
            refine lv_lload hx hb d_HaulFlows_cut_60 (lv_at hl 4 rfl) ?_
            obtain ⟨y62, hy62, hR⟩ := hw_bind hR
            have hM := c_Site_addCut l dC dI cI cJ cZ H.size aS VS0 VS1 VS2 NS0 NS1 NS2 LS0 LS1 LS2 LS3 LS4 LS5 LS6 LS7 LS8 IS0 aY VY0 LY0 LY1 LY2 IY0 x1 x3.toNatClampNeg x4.toNatClampNeg x5 (by first | assumption | omega)
            rw [hy62] at hM
            refine hw_callVi (As := [.long x1, .int (nI x3.toNatClampNeg), .int (nI x4.toNatClampNeg), .long x5]) (rest := []) (wr := w_H cI cJ cZ aH 0 aS aP aQ aT ++ w_P cI cJ cZ aP VP0 VP1 VP2 NP0 LP0 LP1 LP2 LP3 LP4 IP0 IP1 aS ++ w_P cI cJ cZ aQ VQ0 VQ1 VQ2 NQ0 LQ0 LQ1 LQ2 LQ3 LQ4 IQ0 IQ1 aS ++ w_T cI cJ cZ aT VT0 NT0 NT1 LT0 IT0 aS) ⟨hx, hb, hml, hown, hG⟩ hM (hw_cwV 4 hG m_227 m_228 m_229 m_2 m_230 rfl rfl (by decide +kernel) ⟨Nat.le_of_ble_eq_true rfl, Nat.le_of_ble_eq_true rfl⟩) hK hP hD hS hA [1, 2, 3, 4, 5, 6, 7, 8, 9, 10, 11, 12, 13, 14, 15, 16, 17, 18, 19] [0, 20, 21, 22, 23, 24, 25, 26, 27, 28, 29, 30, 31, 32, 33, 34, 35, 36, 37, 38, 39, 40, 41, 42] rfl rfl (by decide) (by decide) (by decide) (hw_recv hK hP 1 rfl rfl) rfl hl.1 rfl (Nat.le_of_ble_eq_true rfl) d_HaulFlows_cut_62 ⟨Nat.le_of_ble_eq_true rfl, Nat.le_of_ble_eq_true rfl⟩ (fun H locs hP hD hS => ?_)
            have hP : va_P (dC, dI) vwCl (w_H cI cJ cZ aH 0 aS aP aQ aT ++ w_S cI cJ cZ aS y62.2.1 VS1 VS2 y62.2.2.1 y62.2.2.2.1 NS2 y62.2.2.2.2.1 y62.2.2.2.2.2 LS2 LS3 LS4 LS5 LS6 LS7 LS8 IS0 aY ++ w_Y cI cJ cZ aY VY0 LY0 LY1 LY2 IY0 ++ w_P cI cJ cZ aP VP0 VP1 VP2 NP0 LP0 LP1 LP2 LP3 LP4 IP0 IP1 aS ++ w_P cI cJ cZ aQ VQ0 VQ1 VQ2 NQ0 LQ0 LQ1 LQ2 LQ3 LQ4 IQ0 IQ1 aS ++ w_T cI cJ cZ aT VT0 NT0 NT1 LT0 IT0 aS) H := hP.sub [0, 24, 25, 26, 27, 28, 29, 30, 31, 32, 33, 34, 35, 36, 37, 38, 39, 40, 41, 42, 1, 2, 3, 4, 5, 6, 7, 8, 9, 10, 11, 12, 13, 14, 15, 16, 17, 18, 19, 20, 21, 22, 23] rfl
            have hD : va_D A (w_H cI cJ cZ aH 0 aS aP aQ aT ++ w_S cI cJ cZ aS y62.2.1 VS1 VS2 y62.2.2.1 y62.2.2.2.1 NS2 y62.2.2.2.2.1 y62.2.2.2.2.2 LS2 LS3 LS4 LS5 LS6 LS7 LS8 IS0 aY ++ w_Y cI cJ cZ aY VY0 LY0 LY1 LY2 IY0 ++ w_P cI cJ cZ aP VP0 VP1 VP2 NP0 LP0 LP1 LP2 LP3 LP4 IP0 IP1 aS ++ w_P cI cJ cZ aQ VQ0 VQ1 VQ2 NQ0 LQ0 LQ1 LQ2 LQ3 LQ4 IQ0 IQ1 aS ++ w_T cI cJ cZ aT VT0 NT0 NT1 LT0 IT0 aS) := hD.sub [0, 24, 25, 26, 27, 28, 29, 30, 31, 32, 33, 34, 35, 36, 37, 38, 39, 40, 41, 42, 1, 2, 3, 4, 5, 6, 7, 8, 9, 10, 11, 12, 13, 14, 15, 16, 17, 18, 19, 20, 21, 22, 23] (by decide) rfl
            subst hR
            exact W.iret (v := nI y62.1) hx hb hr (fun t ht hW => ⟨⟨_, (), rfl, rfl, by rw [ht]; exact hP, va_K.moved hW.alike hK, hD⟩, hS.F ht⟩) hS.2.2 d_HaulFlows_cut_65
          · replace hR := (if_neg c42).symm.trans hR
            refine lv_iconst (v := (-1)) hx hb d_HaulFlows_cut_45 (by decide) ?_
            subst hR
            exact W.iret (v := (-1)) hx hb hr (fun t ht hW => ⟨⟨_, (), rfl, rfl, by rw [ht]; exact hP, va_K.moved hW.alike hK, hD⟩, hS.F ht⟩) hS.2.2 d_HaulFlows_cut_46
def f_HaulFlows_fill (VH0 : Nat) (VS2 : Nat) (NS2 : Nat → Nat) (LS4 : Nat → Int64) (LS5 : Nat → Int64) (x1 : Int64) (x3 : Int32) (x4 : Int64) : Int32 × (Nat) × (Nat) × (Nat → Nat) × (Nat → Int64) × (Nat → Int64) :=
  hh_bind (f_HaulFlows_isVolume x1) (fun y1 => if y1 = 0 then ((-1), VH0, VS2, NS2, LS4, LS5) else (hh_bind (f_HaulFlows_isBelow x3 (nI 12)) (fun y10 => if y10 = 0 then ((-1), VH0, VS2, NS2, LS4, LS5) else (hh_bind (f_HaulFlows_isMetre x4) (fun y18 => if y18 = 0 then ((-1), VH0, VS2, NS2, LS4, LS5) else (if VS2 < 8 then (hh_bind (f_Site_addFill VS2 NS2 LS4 LS5 x1 x3.toNatClampNeg x4) (fun y51 => (nI y51.1, 0, y51.2.1, y51.2.2.1, y51.2.2.2.1, y51.2.2.2.2))) else ((-1), VH0, VS2, NS2, LS4, LS5)))))))
set_option maxHeartbeats 4000000 in
set_option maxRecDepth 100000 in
theorem c_HaulFlows_fill (l : Launch) (dC : Nat → ClassId) (dI : Nat → Nat → Nat) (cI cJ cZ : ClassId) (sz : Nat) (aH : Nat → Nat) (VH0 : Nat) (aS : Nat → Nat) (VS0 : Nat) (VS1 : Nat) (VS2 : Nat) (NS0 : Nat → Nat) (NS1 : Nat → Nat) (NS2 : Nat → Nat) (LS0 : Nat → Int64) (LS1 : Nat → Int64) (LS2 : Nat → Int64) (LS3 : Nat → Int64) (LS4 : Nat → Int64) (LS5 : Nat → Int64) (LS6 : Nat → Int64) (LS7 : Nat → Int64) (LS8 : Nat → Int64) (IS0 : Nat → Int32) (aY : Nat → Nat) (VY0 : Nat) (LY0 : Nat → Int64) (LY1 : Nat → Int64) (LY2 : Nat → Int64) (IY0 : Nat → Int32) (aP : Nat → Nat) (VP0 : Nat) (VP1 : Nat) (VP2 : Nat) (NP0 : Nat → Nat) (LP0 : Nat → Int64) (LP1 : Nat → Int64) (LP2 : Nat → Int64) (LP3 : Nat → Int64) (LP4 : Nat → Int64) (IP0 : Nat → Int32) (IP1 : Nat → Int32) (aQ : Nat → Nat) (VQ0 : Nat) (VQ1 : Nat) (VQ2 : Nat) (NQ0 : Nat → Nat) (LQ0 : Nat → Int64) (LQ1 : Nat → Int64) (LQ2 : Nat → Int64) (LQ3 : Nat → Int64) (LQ4 : Nat → Int64) (IQ0 : Nat → Int32) (IQ1 : Nat → Int32) (aT : Nat → Nat) (VT0 : Nat) (NT0 : Nat → Nat) (NT1 : Nat → Nat) (LT0 : Nat → Int64) (IT0 : Nat → Int32) (x1 : Int64) (x3 : Int32) (x4 : Int64) (hc8 : VS0 ≤ 8) (hp4 : VS1 ≤ 4) (hf8 : VS2 ≤ 8) (hy6 : VY0 ≤ 6) (hk4 : ∀ i, NS0 i < 4) (hcw : ∀ i, NS1 i < 12) (hfw : ∀ i, NS2 i < 12) (hq : ∀ i, NP0 i < 21) (htq : ∀ i, NT1 i < 34) (hst : VH0 ≤ 2) (hpl : VH0 = 1 → VP0 = VS0 + VS1 ∧ VP1 = VS2) (hsf : VT0 ≤ 8) : hh_Ci l y_HaulFlows_fill u_HaulFlows_fill ({ frames := 1, cells := 0, slots := 0, locals := 25 }) (dC, dI) vwCl [(cI, .int), (cJ, .long), (cZ, .boolean)] (w_H cI cJ cZ aH VH0 aS aP aQ aT ++ w_S cI cJ cZ aS VS0 VS1 VS2 NS0 NS1 NS2 LS0 LS1 LS2 LS3 LS4 LS5 LS6 LS7 LS8 IS0 aY ++ w_Y cI cJ cZ aY VY0 LY0 LY1 LY2 IY0 ++ w_P cI cJ cZ aP VP0 VP1 VP2 NP0 LP0 LP1 LP2 LP3 LP4 IP0 IP1 aS ++ w_P cI cJ cZ aQ VQ0 VQ1 VQ2 NQ0 LQ0 LQ1 LQ2 LQ3 LQ4 IQ0 IQ1 aS ++ w_T cI cJ cZ aT VT0 NT0 NT1 LT0 IT0 aS) sz [.ref (aH 0), .long x1, .int x3, .long x4] ((f_HaulFlows_fill VH0 VS2 NS2 LS4 LS5 x1 x3 x4).1) (w_H cI cJ cZ aH ((f_HaulFlows_fill VH0 VS2 NS2 LS4 LS5 x1 x3 x4).2.1) aS aP aQ aT ++ w_S cI cJ cZ aS VS0 VS1 ((f_HaulFlows_fill VH0 VS2 NS2 LS4 LS5 x1 x3 x4).2.2.1) NS0 NS1 ((f_HaulFlows_fill VH0 VS2 NS2 LS4 LS5 x1 x3 x4).2.2.2.1) LS0 LS1 LS2 LS3 ((f_HaulFlows_fill VH0 VS2 NS2 LS4 LS5 x1 x3 x4).2.2.2.2.1) ((f_HaulFlows_fill VH0 VS2 NS2 LS4 LS5 x1 x3 x4).2.2.2.2.2) LS6 LS7 LS8 IS0 aY ++ w_Y cI cJ cZ aY VY0 LY0 LY1 LY2 IY0 ++ w_P cI cJ cZ aP VP0 VP1 VP2 NP0 LP0 LP1 LP2 LP3 LP4 IP0 IP1 aS ++ w_P cI cJ cZ aQ VQ0 VQ1 VQ2 NQ0 LQ0 LQ1 LQ2 LQ3 LQ4 IQ0 IQ1 aS ++ w_T cI cJ cZ aT VT0 NT0 NT1 LT0 IT0 aS) 0 0 := by
  unfold hh_Ci
  refine Met.ofW (cc := b_HaulFlows_fill) (maxL := 6) (ret := (some .int)) (by decide) rfl ?_
  intro p e s m args below meth c s₁ B hml hv
  obtain ⟨rfl, hsz, hP, hK, hD0⟩ := hv
  have hx := B.exec
  have hb := B.bytes
  have hr := B.returns
  have hts := atoms_spec (ws := u_HaulFlows_fill) B.pre
  have hG : ∀ w ∈ wG, w.before ([.ref (aH 0), .long x1, .int x3, .long x4]).toArray s = true := fun w h => hts w (List.mem_cons_of_mem _ h)
  have hown : s.vm.findClass R_HaulFlows = some m.cls := findClass_of_methodNamed B.named
  have hlocks := B.notSynchronized
  subst hsz
  have hD := hD0.self (sz := s.heap.size)
  generalize hAe : va_A (w_H cI cJ cZ aH VH0 aS aP aQ aT ++ w_S cI cJ cZ aS VS0 VS1 VS2 NS0 NS1 NS2 LS0 LS1 LS2 LS3 LS4 LS5 LS6 LS7 LS8 IS0 aY ++ w_Y cI cJ cZ aY VY0 LY0 LY1 LY2 IY0 ++ w_P cI cJ cZ aP VP0 VP1 VP2 NP0 LP0 LP1 LP2 LP3 LP4 IP0 IP1 aS ++ w_P cI cJ cZ aQ VQ0 VQ1 VQ2 NQ0 LQ0 LQ1 LQ2 LQ3 LQ4 IQ0 IQ1 aS ++ w_T cI cJ cZ aT VT0 NT0 NT1 LT0 IT0 aS) s.heap.size = A at hD ⊢
  have hA : ∀ q : Nat, s.heap.size ≤ q → A q := fun q h => by rw [← hAe]; exact Or.inr h
  have hS : va_S A s.heap s.heap [] := va_S.rf
  have hl := lv_entry ([.ref (aH 0), .long x1, .int x3, .long x4]) (n := 6) (Nat.le_of_ble_eq_true rfl)
  rw [lg_entry_eq]
  generalize (lg_sl ([.ref (aH 0), .long x1, .int x3, .long x4]) ++ List.replicate (6 - (lg_sl ([.ref (aH 0), .long x1, .int x3, .long x4])).length) Slot.unset).toArray = ls at hl ⊢
  have hl : lv_has ls 6 [(0, .ref (aH 0)), (1, .long x1), (3, .int x3), (4, .long x4)] := hl
  generalize hR : f_HaulFlows_fill VH0 VS2 NS2 LS4 LS5 x1 x3 x4 = r0
  obtain ⟨H, locs, hHe, hle⟩ : ∃ (H : Heap) (locs : List Loc), s.heap = H ∧ [] = locs := ⟨_, _, rfl, rfl⟩
  have hP : va_P (dC, dI) vwCl (w_H cI cJ cZ aH VH0 aS aP aQ aT ++ w_S cI cJ cZ aS VS0 VS1 VS2 NS0 NS1 NS2 LS0 LS1 LS2 LS3 LS4 LS5 LS6 LS7 LS8 IS0 aY ++ w_Y cI cJ cZ aY VY0 LY0 LY1 LY2 IY0 ++ w_P cI cJ cZ aP VP0 VP1 VP2 NP0 LP0 LP1 LP2 LP3 LP4 IP0 IP1 aS ++ w_P cI cJ cZ aQ VQ0 VQ1 VQ2 NQ0 LQ0 LQ1 LQ2 LQ3 LQ4 IQ0 IQ1 aS ++ w_T cI cJ cZ aT VT0 NT0 NT1 LT0 IT0 aS) H := by rw [← hHe]; exact hP
  have hS : va_S A s.heap H locs := by rw [← hHe, ← hle]; exact hS
  refine hw_start hHe hle ?_
  unfold f_HaulFlows_fill at hR
  refine lv_lload_n hx hb d_HaulFlows_fill_0 rfl (lv_at hl 1 rfl) ?_
  obtain ⟨y1, hy1, hR⟩ := hw_bind hR
  have hM := c_HaulFlows_isVolume l dC dI cI cJ cZ H.size x1
  rw [hy1] at hM
  refine hw_callSi (As := [.long x1]) (rest := []) (wr := w_H cI cJ cZ aH VH0 aS aP aQ aT ++ w_S cI cJ cZ aS VS0 VS1 VS2 NS0 NS1 NS2 LS0 LS1 LS2 LS3 LS4 LS5 LS6 LS7 LS8 IS0 aY ++ w_Y cI cJ cZ aY VY0 LY0 LY1 LY2 IY0 ++ w_P cI cJ cZ aP VP0 VP1 VP2 NP0 LP0 LP1 LP2 LP3 LP4 IP0 IP1 aS ++ w_P cI cJ cZ aQ VQ0 VQ1 VQ2 NQ0 LQ0 LQ1 LQ2 LQ3 LQ4 IQ0 IQ1 aS ++ w_T cI cJ cZ aT VT0 NT0 NT1 LT0 IT0 aS) ⟨hx, hb, hml, hown, hG⟩ hM (hw_cwS 1 hG m_216 m_217 m_1 m_218 rfl rfl (by decide +kernel) ⟨Nat.le_of_ble_eq_true rfl, Nat.le_of_ble_eq_true rfl⟩) hK hP hD hS hA [] [0, 1, 2, 3, 4, 5, 6, 7, 8, 9, 10, 11, 12, 13, 14, 15, 16, 17, 18, 19, 20, 21, 22, 23, 24, 25, 26, 27, 28, 29, 30, 31, 32, 33, 34, 35, 36, 37, 38, 39, 40, 41, 42] rfl rfl (by decide) (by decide) (by decide) rfl hl.1 rfl (Nat.le_of_ble_eq_true rfl) d_HaulFlows_fill_1 ⟨Nat.le_of_ble_eq_true rfl, Nat.le_of_ble_eq_true rfl⟩ (fun H locs hP hD hS => ?_)
  have hP : va_P (dC, dI) vwCl (w_H cI cJ cZ aH VH0 aS aP aQ aT ++ w_S cI cJ cZ aS VS0 VS1 VS2 NS0 NS1 NS2 LS0 LS1 LS2 LS3 LS4 LS5 LS6 LS7 LS8 IS0 aY ++ w_Y cI cJ cZ aY VY0 LY0 LY1 LY2 IY0 ++ w_P cI cJ cZ aP VP0 VP1 VP2 NP0 LP0 LP1 LP2 LP3 LP4 IP0 IP1 aS ++ w_P cI cJ cZ aQ VQ0 VQ1 VQ2 NQ0 LQ0 LQ1 LQ2 LQ3 LQ4 IQ0 IQ1 aS ++ w_T cI cJ cZ aT VT0 NT0 NT1 LT0 IT0 aS) H := hP
  have hD : va_D A (w_H cI cJ cZ aH VH0 aS aP aQ aT ++ w_S cI cJ cZ aS VS0 VS1 VS2 NS0 NS1 NS2 LS0 LS1 LS2 LS3 LS4 LS5 LS6 LS7 LS8 IS0 aY ++ w_Y cI cJ cZ aY VY0 LY0 LY1 LY2 IY0 ++ w_P cI cJ cZ aP VP0 VP1 VP2 NP0 LP0 LP1 LP2 LP3 LP4 IP0 IP1 aS ++ w_P cI cJ cZ aQ VQ0 VQ1 VQ2 NQ0 LQ0 LQ1 LQ2 LQ3 LQ4 IQ0 IQ1 aS ++ w_T cI cJ cZ aT VT0 NT0 NT1 LT0 IT0 aS) := hD
  refine lv_if_eq (tgt := 36) hx hb d_HaulFlows_fill_4 (by decide) (fun c4 => ?_) (fun c4 => ?_)
  · replace hR := (if_pos c4).symm.trans hR
    refine lv_iconst (v := (-1)) hx hb d_HaulFlows_fill_36 (by decide) ?_
    subst hR
    exact W.iret (v := (-1)) hx hb hr (fun t ht hW => ⟨⟨_, (), rfl, rfl, by rw [ht]; exact hP, va_K.moved hW.alike hK, hD⟩, hS.F ht⟩) hS.2.2 d_HaulFlows_fill_37
  · replace hR := (if_neg c4).symm.trans hR
    refine lv_iload_n hx hb d_HaulFlows_fill_7 rfl (lv_at hl 2 rfl) ?_
    refine lv_bipush (v := nI 12) hx hb d_HaulFlows_fill_8 (by decide) ?_
    obtain ⟨y10, hy10, hR⟩ := hw_bind hR
    have hM := c_HaulFlows_isBelow l dC dI cI cJ cZ H.size x3 (nI 12)
    rw [hy10] at hM
    refine hw_callSi (As := [.int x3, .int (nI 12)]) (rest := []) (wr := w_H cI cJ cZ aH VH0 aS aP aQ aT ++ w_S cI cJ cZ aS VS0 VS1 VS2 NS0 NS1 NS2 LS0 LS1 LS2 LS3 LS4 LS5 LS6 LS7 LS8 IS0 aY ++ w_Y cI cJ cZ aY VY0 LY0 LY1 LY2 IY0 ++ w_P cI cJ cZ aP VP0 VP1 VP2 NP0 LP0 LP1 LP2 LP3 LP4 IP0 IP1 aS ++ w_P cI cJ cZ aQ VQ0 VQ1 VQ2 NQ0 LQ0 LQ1 LQ2 LQ3 LQ4 IQ0 IQ1 aS ++ w_T cI cJ cZ aT VT0 NT0 NT1 LT0 IT0 aS) ⟨hx, hb, hml, hown, hG⟩ hM (hw_cwS 2 hG m_220 m_221 m_1 m_222 rfl rfl (by decide +kernel) ⟨Nat.le_of_ble_eq_true rfl, Nat.le_of_ble_eq_true rfl⟩) hK hP hD hS hA [] [0, 1, 2, 3, 4, 5, 6, 7, 8, 9, 10, 11, 12, 13, 14, 15, 16, 17, 18, 19, 20, 21, 22, 23, 24, 25, 26, 27, 28, 29, 30, 31, 32, 33, 34, 35, 36, 37, 38, 39, 40, 41, 42] rfl rfl (by decide) (by decide) (by decide) rfl hl.1 rfl (Nat.le_of_ble_eq_true rfl) d_HaulFlows_fill_10 ⟨Nat.le_of_ble_eq_true rfl, Nat.le_of_ble_eq_true rfl⟩ (fun H locs hP hD hS => ?_)
    have hP : va_P (dC, dI) vwCl (w_H cI cJ cZ aH VH0 aS aP aQ aT ++ w_S cI cJ cZ aS VS0 VS1 VS2 NS0 NS1 NS2 LS0 LS1 LS2 LS3 LS4 LS5 LS6 LS7 LS8 IS0 aY ++ w_Y cI cJ cZ aY VY0 LY0 LY1 LY2 IY0 ++ w_P cI cJ cZ aP VP0 VP1 VP2 NP0 LP0 LP1 LP2 LP3 LP4 IP0 IP1 aS ++ w_P cI cJ cZ aQ VQ0 VQ1 VQ2 NQ0 LQ0 LQ1 LQ2 LQ3 LQ4 IQ0 IQ1 aS ++ w_T cI cJ cZ aT VT0 NT0 NT1 LT0 IT0 aS) H := hP
    have hD : va_D A (w_H cI cJ cZ aH VH0 aS aP aQ aT ++ w_S cI cJ cZ aS VS0 VS1 VS2 NS0 NS1 NS2 LS0 LS1 LS2 LS3 LS4 LS5 LS6 LS7 LS8 IS0 aY ++ w_Y cI cJ cZ aY VY0 LY0 LY1 LY2 IY0 ++ w_P cI cJ cZ aP VP0 VP1 VP2 NP0 LP0 LP1 LP2 LP3 LP4 IP0 IP1 aS ++ w_P cI cJ cZ aQ VQ0 VQ1 VQ2 NQ0 LQ0 LQ1 LQ2 LQ3 LQ4 IQ0 IQ1 aS ++ w_T cI cJ cZ aT VT0 NT0 NT1 LT0 IT0 aS) := hD
    have hbl10 := hp_below (x := x3) (n := 12) (by omega)
    rw [hy10] at hbl10
    refine lv_if_eq (tgt := 36) hx hb d_HaulFlows_fill_13 (by decide) (fun c13 => ?_) (fun c13 => ?_)
    · replace hR := (if_pos c13).symm.trans hR
      refine lv_iconst (v := (-1)) hx hb d_HaulFlows_fill_36 (by decide) ?_
      subst hR
      exact W.iret (v := (-1)) hx hb hr (fun t ht hW => ⟨⟨_, (), rfl, rfl, by rw [ht]; exact hP, va_K.moved hW.alike hK, hD⟩, hS.F ht⟩) hS.2.2 d_HaulFlows_fill_37
    · replace hR := (if_neg c13).symm.trans hR
      refine lv_lload hx hb d_HaulFlows_fill_16 (lv_at hl 3 rfl) ?_
      obtain ⟨y18, hy18, hR⟩ := hw_bind hR
      have hM := c_HaulFlows_isMetre l dC dI cI cJ cZ H.size x4
      rw [hy18] at hM
      refine hw_callSi (As := [.long x4]) (rest := []) (wr := w_H cI cJ cZ aH VH0 aS aP aQ aT ++ w_S cI cJ cZ aS VS0 VS1 VS2 NS0 NS1 NS2 LS0 LS1 LS2 LS3 LS4 LS5 LS6 LS7 LS8 IS0 aY ++ w_Y cI cJ cZ aY VY0 LY0 LY1 LY2 IY0 ++ w_P cI cJ cZ aP VP0 VP1 VP2 NP0 LP0 LP1 LP2 LP3 LP4 IP0 IP1 aS ++ w_P cI cJ cZ aQ VQ0 VQ1 VQ2 NQ0 LQ0 LQ1 LQ2 LQ3 LQ4 IQ0 IQ1 aS ++ w_T cI cJ cZ aT VT0 NT0 NT1 LT0 IT0 aS) ⟨hx, hb, hml, hown, hG⟩ hM (hw_cwS 1 hG m_223 m_224 m_1 m_225 rfl rfl (by decide +kernel) ⟨Nat.le_of_ble_eq_true rfl, Nat.le_of_ble_eq_true rfl⟩) hK hP hD hS hA [] [0, 1, 2, 3, 4, 5, 6, 7, 8, 9, 10, 11, 12, 13, 14, 15, 16, 17, 18, 19, 20, 21, 22, 23, 24, 25, 26, 27, 28, 29, 30, 31, 32, 33, 34, 35, 36, 37, 38, 39, 40, 41, 42] rfl rfl (by decide) (by decide) (by decide) rfl hl.1 rfl (Nat.le_of_ble_eq_true rfl) d_HaulFlows_fill_18 ⟨Nat.le_of_ble_eq_true rfl, Nat.le_of_ble_eq_true rfl⟩ (fun H locs hP hD hS => ?_)
      have hP : va_P (dC, dI) vwCl (w_H cI cJ cZ aH VH0 aS aP aQ aT ++ w_S cI cJ cZ aS VS0 VS1 VS2 NS0 NS1 NS2 LS0 LS1 LS2 LS3 LS4 LS5 LS6 LS7 LS8 IS0 aY ++ w_Y cI cJ cZ aY VY0 LY0 LY1 LY2 IY0 ++ w_P cI cJ cZ aP VP0 VP1 VP2 NP0 LP0 LP1 LP2 LP3 LP4 IP0 IP1 aS ++ w_P cI cJ cZ aQ VQ0 VQ1 VQ2 NQ0 LQ0 LQ1 LQ2 LQ3 LQ4 IQ0 IQ1 aS ++ w_T cI cJ cZ aT VT0 NT0 NT1 LT0 IT0 aS) H := hP
      have hD : va_D A (w_H cI cJ cZ aH VH0 aS aP aQ aT ++ w_S cI cJ cZ aS VS0 VS1 VS2 NS0 NS1 NS2 LS0 LS1 LS2 LS3 LS4 LS5 LS6 LS7 LS8 IS0 aY ++ w_Y cI cJ cZ aY VY0 LY0 LY1 LY2 IY0 ++ w_P cI cJ cZ aP VP0 VP1 VP2 NP0 LP0 LP1 LP2 LP3 LP4 IP0 IP1 aS ++ w_P cI cJ cZ aQ VQ0 VQ1 VQ2 NQ0 LQ0 LQ1 LQ2 LQ3 LQ4 IQ0 IQ1 aS ++ w_T cI cJ cZ aT VT0 NT0 NT1 LT0 IT0 aS) := hD
      refine lv_if_eq (tgt := 36) hx hb d_HaulFlows_fill_21 (by decide) (fun c21 => ?_) (fun c21 => ?_)
      · replace hR := (if_pos c21).symm.trans hR
        refine lv_iconst (v := (-1)) hx hb d_HaulFlows_fill_36 (by decide) ?_
        subst hR
        exact W.iret (v := (-1)) hx hb hr (fun t ht hW => ⟨⟨_, (), rfl, rfl, by rw [ht]; exact hP, va_K.moved hW.alike hK, hD⟩, hS.F ht⟩) hS.2.2 d_HaulFlows_fill_37
      · replace hR := (if_neg c21).symm.trans hR
        refine lv_aload_n hx hb d_HaulFlows_fill_24 rfl (lv_at hl 0 rfl) ?_
        refine va_get (D := (dC, dI)) (ci := 4) (v := .ref (aS 0)) (C := R_HaulFlows) (T := T_HaulFlows) (N := 5) hx hb hG in_HaulFlows hown hK hP 0 rfl rfl 0 (by decide) (hG _ m_196) (fun _ h9 => h9) rfl d_HaulFlows_fill_25 ?_
        refine va_get (D := (dC, dI)) (ci := 2) (v := .int (nI VS2)) (C := R_Site) (T := T_Site) (N := 17) hx hb hG in_Site hown hK hP 1 rfl rfl 2 (by decide) (hG _ m_62) (fun _ h9 => h9) rfl d_HaulFlows_fill_28 ?_
        refine lv_bipush (v := nI 8) hx hb d_HaulFlows_fill_31 (by decide) ?_
        refine hw_icmp_lt (tgt := 38) hx hb d_HaulFlows_fill_33 (by decide) (by omega) (by omega) (fun c33 => ?_) (fun c33 => ?_)
        · replace hR := (if_pos c33).symm.trans hR
          obtain ⟨hna3, hnb3⟩ := hbl10 c13
          have en38_3 : nI (x3.toNatClampNeg) = x3 := hw_nat hna3
          have hl : lv_has ls 6 [(0, .ref (aH 0)), (1, .long x1), (3, .int (nI x3.toNatClampNeg)), (4, .long x4)] := by rw [en38_3]; exact hl
          refine lv_aload_n hx hb d_HaulFlows_fill_38 rfl (lv_at hl 0 rfl) ?_
          refine lv_iconst (v := nI 0) hx hb d_HaulFlows_fill_39 (by decide) ?_
          refine va_put (D := (dC, dI)) (ci := 4) (v := .int (nI 0)) (ty := .int) (C := R_HaulFlows) (T := T_HaulFlows) (N := 5) hx hb hG in_HaulFlows ty_HaulFlows tok_HaulFlows nok_HaulFlows hown hK hP hD hS 0 rfl rfl 4 (by decide) (hG _ m_200) (fun _ h9 => h9) rfl (by decide +kernel) rfl rfl (Nat.le_of_ble_eq_true rfl) d_HaulFlows_fill_40 (fun H locs hP hD hS => ?_)
          have hP : va_P (dC, dI) vwCl (w_H cI cJ cZ aH 0 aS aP aQ aT ++ w_S cI cJ cZ aS VS0 VS1 VS2 NS0 NS1 NS2 LS0 LS1 LS2 LS3 LS4 LS5 LS6 LS7 LS8 IS0 aY ++ w_Y cI cJ cZ aY VY0 LY0 LY1 LY2 IY0 ++ w_P cI cJ cZ aP VP0 VP1 VP2 NP0 LP0 LP1 LP2 LP3 LP4 IP0 IP1 aS ++ w_P cI cJ cZ aQ VQ0 VQ1 VQ2 NQ0 LQ0 LQ1 LQ2 LQ3 LQ4 IQ0 IQ1 aS ++ w_T cI cJ cZ aT VT0 NT0 NT1 LT0 IT0 aS) H := hP
          have hD : va_D A (w_H cI cJ cZ aH 0 aS aP aQ aT ++ w_S cI cJ cZ aS VS0 VS1 VS2 NS0 NS1 NS2 LS0 LS1 LS2 LS3 LS4 LS5 LS6 LS7 LS8 IS0 aY ++ w_Y cI cJ cZ aY VY0 LY0 LY1 LY2 IY0 ++ w_P cI cJ cZ aP VP0 VP1 VP2 NP0 LP0 LP1 LP2 LP3 LP4 IP0 IP1 aS ++ w_P cI cJ cZ aQ VQ0 VQ1 VQ2 NQ0 LQ0 LQ1 LQ2 LQ3 LQ4 IQ0 IQ1 aS ++ w_T cI cJ cZ aT VT0 NT0 NT1 LT0 IT0 aS) := hD
          refine lv_aload_n hx hb d_HaulFlows_fill_43 rfl (lv_at hl 0 rfl) ?_
          refine va_get (D := (dC, dI)) (ci := 4) (v := .ref (aS 0)) (C := R_HaulFlows) (T := T_HaulFlows) (N := 5) hx hb hG in_HaulFlows hown hK hP 0 rfl rfl 0 (by decide) (hG _ m_196) (fun _ h9 => h9) rfl d_HaulFlows_fill_44 ?_
          refine lv_lload_n hx hb d_HaulFlows_fill_47 rfl (lv_at hl 1 rfl) ?_
          refine lv_iload_n hx hb d_HaulFlows_fill_48 rfl (lv_at hl 2 rfl) ?_
          refine lv_lload hx hb d_HaulFlows_fill_49 (lv_at hl 3 rfl) ?_
          obtain ⟨y51, hy51, hR⟩ := hw_bind hR
          have hM := c_Site_addFill l dC dI cI cJ cZ H.size aS VS0 VS1 VS2 NS0 NS1 NS2 LS0 LS1 LS2 LS3 LS4 LS5 LS6 LS7 LS8 IS0 aY VY0 LY0 LY1 LY2 IY0 x1 x3.toNatClampNeg x4 (by first | assumption | omega)
          rw [hy51] at hM
          refine hw_callVi (As := [.long x1, .int (nI x3.toNatClampNeg), .long x4]) (rest := []) (wr := w_H cI cJ cZ aH 0 aS aP aQ aT ++ w_P cI cJ cZ aP VP0 VP1 VP2 NP0 LP0 LP1 LP2 LP3 LP4 IP0 IP1 aS ++ w_P cI cJ cZ aQ VQ0 VQ1 VQ2 NQ0 LQ0 LQ1 LQ2 LQ3 LQ4 IQ0 IQ1 aS ++ w_T cI cJ cZ aT VT0 NT0 NT1 LT0 IT0 aS) ⟨hx, hb, hml, hown, hG⟩ hM (hw_cwV 3 hG m_235 m_236 m_237 m_2 m_238 rfl rfl (by decide +kernel) ⟨Nat.le_of_ble_eq_true rfl, Nat.le_of_ble_eq_true rfl⟩) hK hP hD hS hA [1, 2, 3, 4, 5, 6, 7, 8, 9, 10, 11, 12, 13, 14, 15, 16, 17, 18, 19] [0, 20, 21, 22, 23, 24, 25, 26, 27, 28, 29, 30, 31, 32, 33, 34, 35, 36, 37, 38, 39, 40, 41, 42] rfl rfl (by decide) (by decide) (by decide) (hw_recv hK hP 1 rfl rfl) rfl hl.1 rfl (Nat.le_of_ble_eq_true rfl) d_HaulFlows_fill_51 ⟨Nat.le_of_ble_eq_true rfl, Nat.le_of_ble_eq_true rfl⟩ (fun H locs hP hD hS => ?_)
          have hP : va_P (dC, dI) vwCl (w_H cI cJ cZ aH 0 aS aP aQ aT ++ w_S cI cJ cZ aS VS0 VS1 y51.2.1 NS0 NS1 y51.2.2.1 LS0 LS1 LS2 LS3 y51.2.2.2.1 y51.2.2.2.2 LS6 LS7 LS8 IS0 aY ++ w_Y cI cJ cZ aY VY0 LY0 LY1 LY2 IY0 ++ w_P cI cJ cZ aP VP0 VP1 VP2 NP0 LP0 LP1 LP2 LP3 LP4 IP0 IP1 aS ++ w_P cI cJ cZ aQ VQ0 VQ1 VQ2 NQ0 LQ0 LQ1 LQ2 LQ3 LQ4 IQ0 IQ1 aS ++ w_T cI cJ cZ aT VT0 NT0 NT1 LT0 IT0 aS) H := hP.sub [0, 24, 25, 26, 27, 28, 29, 30, 31, 32, 33, 34, 35, 36, 37, 38, 39, 40, 41, 42, 1, 2, 3, 4, 5, 6, 7, 8, 9, 10, 11, 12, 13, 14, 15, 16, 17, 18, 19, 20, 21, 22, 23] rfl
          have hD : va_D A (w_H cI cJ cZ aH 0 aS aP aQ aT ++ w_S cI cJ cZ aS VS0 VS1 y51.2.1 NS0 NS1 y51.2.2.1 LS0 LS1 LS2 LS3 y51.2.2.2.1 y51.2.2.2.2 LS6 LS7 LS8 IS0 aY ++ w_Y cI cJ cZ aY VY0 LY0 LY1 LY2 IY0 ++ w_P cI cJ cZ aP VP0 VP1 VP2 NP0 LP0 LP1 LP2 LP3 LP4 IP0 IP1 aS ++ w_P cI cJ cZ aQ VQ0 VQ1 VQ2 NQ0 LQ0 LQ1 LQ2 LQ3 LQ4 IQ0 IQ1 aS ++ w_T cI cJ cZ aT VT0 NT0 NT1 LT0 IT0 aS) := hD.sub [0, 24, 25, 26, 27, 28, 29, 30, 31, 32, 33, 34, 35, 36, 37, 38, 39, 40, 41, 42, 1, 2, 3, 4, 5, 6, 7, 8, 9, 10, 11, 12, 13, 14, 15, 16, 17, 18, 19, 20, 21, 22, 23] (by decide) rfl
          subst hR
          exact W.iret (v := nI y51.1) hx hb hr (fun t ht hW => ⟨⟨_, (), rfl, rfl, by rw [ht]; exact hP, va_K.moved hW.alike hK, hD⟩, hS.F ht⟩) hS.2.2 d_HaulFlows_fill_54
        · replace hR := (if_neg c33).symm.trans hR
          refine lv_iconst (v := (-1)) hx hb d_HaulFlows_fill_36 (by decide) ?_
          subst hR
          exact W.iret (v := (-1)) hx hb hr (fun t ht hW => ⟨⟨_, (), rfl, rfl, by rw [ht]; exact hP, va_K.moved hW.alike hK, hD⟩, hS.F ht⟩) hS.2.2 d_HaulFlows_fill_37
def f_HaulFlows_swell (VH0 : Nat) (LS6 : Nat → Int64) (LS7 : Nat → Int64) (x1 : Int32) (x2 : Int64) (x4 : Int64) : Int32 × (Nat) × (Nat → Int64) × (Nat → Int64) :=
  hh_bind (f_HaulFlows_isBelow x1 (nI 4)) (fun y2 => if y2 = 0 then (nI 0, VH0, LS6, LS7) else (hh_bind (f_HaulFlows_isSwell x2) (fun y9 => if y9 = 0 then (nI 0, VH0, LS6, LS7) else (hh_bind (f_HaulFlows_isSwell x4) (fun y17 => if y17 = 0 then (nI 0, VH0, LS6, LS7) else (nI 1, 0, vp_updL LS6 x1.toNatClampNeg x2, vp_updL LS7 x1.toNatClampNeg x4))))))
set_option maxHeartbeats 4000000 in
set_option maxRecDepth 100000 in
theorem c_HaulFlows_swell (l : Launch) (dC : Nat → ClassId) (dI : Nat → Nat → Nat) (cI cJ cZ : ClassId) (sz : Nat) (aH : Nat → Nat) (VH0 : Nat) (aS : Nat → Nat) (VS0 : Nat) (VS1 : Nat) (VS2 : Nat) (NS0 : Nat → Nat) (NS1 : Nat → Nat) (NS2 : Nat → Nat) (LS0 : Nat → Int64) (LS1 : Nat → Int64) (LS2 : Nat → Int64) (LS3 : Nat → Int64) (LS4 : Nat → Int64) (LS5 : Nat → Int64) (LS6 : Nat → Int64) (LS7 : Nat → Int64) (LS8 : Nat → Int64) (IS0 : Nat → Int32) (aY : Nat → Nat) (VY0 : Nat) (LY0 : Nat → Int64) (LY1 : Nat → Int64) (LY2 : Nat → Int64) (IY0 : Nat → Int32) (aP : Nat → Nat) (VP0 : Nat) (VP1 : Nat) (VP2 : Nat) (NP0 : Nat → Nat) (LP0 : Nat → Int64) (LP1 : Nat → Int64) (LP2 : Nat → Int64) (LP3 : Nat → Int64) (LP4 : Nat → Int64) (IP0 : Nat → Int32) (IP1 : Nat → Int32) (aQ : Nat → Nat) (VQ0 : Nat) (VQ1 : Nat) (VQ2 : Nat) (NQ0 : Nat → Nat) (LQ0 : Nat → Int64) (LQ1 : Nat → Int64) (LQ2 : Nat → Int64) (LQ3 : Nat → Int64) (LQ4 : Nat → Int64) (IQ0 : Nat → Int32) (IQ1 : Nat → Int32) (aT : Nat → Nat) (VT0 : Nat) (NT0 : Nat → Nat) (NT1 : Nat → Nat) (LT0 : Nat → Int64) (IT0 : Nat → Int32) (x1 : Int32) (x2 : Int64) (x4 : Int64) (hc8 : VS0 ≤ 8) (hp4 : VS1 ≤ 4) (hf8 : VS2 ≤ 8) (hy6 : VY0 ≤ 6) (hk4 : ∀ i, NS0 i < 4) (hcw : ∀ i, NS1 i < 12) (hfw : ∀ i, NS2 i < 12) (hq : ∀ i, NP0 i < 21) (htq : ∀ i, NT1 i < 34) (hst : VH0 ≤ 2) (hpl : VH0 = 1 → VP0 = VS0 + VS1 ∧ VP1 = VS2) (hsf : VT0 ≤ 8) : hh_Ci l y_HaulFlows_swell u_HaulFlows_swell ({ frames := 1, cells := 0, slots := 0, locals := 21 }) (dC, dI) vwCl [(cI, .int), (cJ, .long), (cZ, .boolean)] (w_H cI cJ cZ aH VH0 aS aP aQ aT ++ w_S cI cJ cZ aS VS0 VS1 VS2 NS0 NS1 NS2 LS0 LS1 LS2 LS3 LS4 LS5 LS6 LS7 LS8 IS0 aY ++ w_Y cI cJ cZ aY VY0 LY0 LY1 LY2 IY0 ++ w_P cI cJ cZ aP VP0 VP1 VP2 NP0 LP0 LP1 LP2 LP3 LP4 IP0 IP1 aS ++ w_P cI cJ cZ aQ VQ0 VQ1 VQ2 NQ0 LQ0 LQ1 LQ2 LQ3 LQ4 IQ0 IQ1 aS ++ w_T cI cJ cZ aT VT0 NT0 NT1 LT0 IT0 aS) sz [.ref (aH 0), .int x1, .long x2, .long x4] ((f_HaulFlows_swell VH0 LS6 LS7 x1 x2 x4).1) (w_H cI cJ cZ aH ((f_HaulFlows_swell VH0 LS6 LS7 x1 x2 x4).2.1) aS aP aQ aT ++ w_S cI cJ cZ aS VS0 VS1 VS2 NS0 NS1 NS2 LS0 LS1 LS2 LS3 LS4 LS5 ((f_HaulFlows_swell VH0 LS6 LS7 x1 x2 x4).2.2.1) ((f_HaulFlows_swell VH0 LS6 LS7 x1 x2 x4).2.2.2) LS8 IS0 aY ++ w_Y cI cJ cZ aY VY0 LY0 LY1 LY2 IY0 ++ w_P cI cJ cZ aP VP0 VP1 VP2 NP0 LP0 LP1 LP2 LP3 LP4 IP0 IP1 aS ++ w_P cI cJ cZ aQ VQ0 VQ1 VQ2 NQ0 LQ0 LQ1 LQ2 LQ3 LQ4 IQ0 IQ1 aS ++ w_T cI cJ cZ aT VT0 NT0 NT1 LT0 IT0 aS) 0 0 := by
  unfold hh_Ci
  refine Met.ofW (cc := b_HaulFlows_swell) (maxL := 6) (ret := (some .boolean)) (by decide) rfl ?_
  intro p e s m args below meth c s₁ B hml hv
  obtain ⟨rfl, hsz, hP, hK, hD0⟩ := hv
  have hx := B.exec
  have hb := B.bytes
  have hr := B.returns
  have hts := atoms_spec (ws := u_HaulFlows_swell) B.pre
  have hG : ∀ w ∈ wG, w.before ([.ref (aH 0), .int x1, .long x2, .long x4]).toArray s = true := fun w h => hts w (List.mem_cons_of_mem _ h)
  have hown : s.vm.findClass R_HaulFlows = some m.cls := findClass_of_methodNamed B.named
  have hlocks := B.notSynchronized
  subst hsz
  have hD := hD0.self (sz := s.heap.size)
  generalize hAe : va_A (w_H cI cJ cZ aH VH0 aS aP aQ aT ++ w_S cI cJ cZ aS VS0 VS1 VS2 NS0 NS1 NS2 LS0 LS1 LS2 LS3 LS4 LS5 LS6 LS7 LS8 IS0 aY ++ w_Y cI cJ cZ aY VY0 LY0 LY1 LY2 IY0 ++ w_P cI cJ cZ aP VP0 VP1 VP2 NP0 LP0 LP1 LP2 LP3 LP4 IP0 IP1 aS ++ w_P cI cJ cZ aQ VQ0 VQ1 VQ2 NQ0 LQ0 LQ1 LQ2 LQ3 LQ4 IQ0 IQ1 aS ++ w_T cI cJ cZ aT VT0 NT0 NT1 LT0 IT0 aS) s.heap.size = A at hD ⊢
  have hA : ∀ q : Nat, s.heap.size ≤ q → A q := fun q h => by rw [← hAe]; exact Or.inr h
  have hS : va_S A s.heap s.heap [] := va_S.rf
  have hl := lv_entry ([.ref (aH 0), .int x1, .long x2, .long x4]) (n := 6) (Nat.le_of_ble_eq_true rfl)
  rw [lg_entry_eq]
  generalize (lg_sl ([.ref (aH 0), .int x1, .long x2, .long x4]) ++ List.replicate (6 - (lg_sl ([.ref (aH 0), .int x1, .long x2, .long x4])).length) Slot.unset).toArray = ls at hl ⊢
  have hl : lv_has ls 6 [(0, .ref (aH 0)), (1, .int x1), (2, .long x2), (4, .long x4)] := hl
  generalize hR : f_HaulFlows_swell VH0 LS6 LS7 x1 x2 x4 = r0
  obtain ⟨H, locs, hHe, hle⟩ : ∃ (H : Heap) (locs : List Loc), s.heap = H ∧ [] = locs := ⟨_, _, rfl, rfl⟩
  have hP : va_P (dC, dI) vwCl (w_H cI cJ cZ aH VH0 aS aP aQ aT ++ w_S cI cJ cZ aS VS0 VS1 VS2 NS0 NS1 NS2 LS0 LS1 LS2 LS3 LS4 LS5 LS6 LS7 LS8 IS0 aY ++ w_Y cI cJ cZ aY VY0 LY0 LY1 LY2 IY0 ++ w_P cI cJ cZ aP VP0 VP1 VP2 NP0 LP0 LP1 LP2 LP3 LP4 IP0 IP1 aS ++ w_P cI cJ cZ aQ VQ0 VQ1 VQ2 NQ0 LQ0 LQ1 LQ2 LQ3 LQ4 IQ0 IQ1 aS ++ w_T cI cJ cZ aT VT0 NT0 NT1 LT0 IT0 aS) H := by rw [← hHe]; exact hP
  have hS : va_S A s.heap H locs := by rw [← hHe, ← hle]; exact hS
  refine hw_start hHe hle ?_
  unfold f_HaulFlows_swell at hR
  refine lv_iload_n hx hb d_HaulFlows_swell_0 rfl (lv_at hl 1 rfl) ?_
  refine lv_iconst (v := nI 4) hx hb d_HaulFlows_swell_1 (by decide) ?_
  obtain ⟨y2, hy2, hR⟩ := hw_bind hR
  have hM := c_HaulFlows_isBelow l dC dI cI cJ cZ H.size x1 (nI 4)
  rw [hy2] at hM
  refine hw_callSi (As := [.int x1, .int (nI 4)]) (rest := []) (wr := w_H cI cJ cZ aH VH0 aS aP aQ aT ++ w_S cI cJ cZ aS VS0 VS1 VS2 NS0 NS1 NS2 LS0 LS1 LS2 LS3 LS4 LS5 LS6 LS7 LS8 IS0 aY ++ w_Y cI cJ cZ aY VY0 LY0 LY1 LY2 IY0 ++ w_P cI cJ cZ aP VP0 VP1 VP2 NP0 LP0 LP1 LP2 LP3 LP4 IP0 IP1 aS ++ w_P cI cJ cZ aQ VQ0 VQ1 VQ2 NQ0 LQ0 LQ1 LQ2 LQ3 LQ4 IQ0 IQ1 aS ++ w_T cI cJ cZ aT VT0 NT0 NT1 LT0 IT0 aS) ⟨hx, hb, hml, hown, hG⟩ hM (hw_cwS 2 hG m_220 m_221 m_1 m_222 rfl rfl (by decide +kernel) ⟨Nat.le_of_ble_eq_true rfl, Nat.le_of_ble_eq_true rfl⟩) hK hP hD hS hA [] [0, 1, 2, 3, 4, 5, 6, 7, 8, 9, 10, 11, 12, 13, 14, 15, 16, 17, 18, 19, 20, 21, 22, 23, 24, 25, 26, 27, 28, 29, 30, 31, 32, 33, 34, 35, 36, 37, 38, 39, 40, 41, 42] rfl rfl (by decide) (by decide) (by decide) rfl hl.1 rfl (Nat.le_of_ble_eq_true rfl) d_HaulFlows_swell_2 ⟨Nat.le_of_ble_eq_true rfl, Nat.le_of_ble_eq_true rfl⟩ (fun H locs hP hD hS => ?_)
  have hP : va_P (dC, dI) vwCl (w_H cI cJ cZ aH VH0 aS aP aQ aT ++ w_S cI cJ cZ aS VS0 VS1 VS2 NS0 NS1 NS2 LS0 LS1 LS2 LS3 LS4 LS5 LS6 LS7 LS8 IS0 aY ++ w_Y cI cJ cZ aY VY0 LY0 LY1 LY2 IY0 ++ w_P cI cJ cZ aP VP0 VP1 VP2 NP0 LP0 LP1 LP2 LP3 LP4 IP0 IP1 aS ++ w_P cI cJ cZ aQ VQ0 VQ1 VQ2 NQ0 LQ0 LQ1 LQ2 LQ3 LQ4 IQ0 IQ1 aS ++ w_T cI cJ cZ aT VT0 NT0 NT1 LT0 IT0 aS) H := hP
  have hD : va_D A (w_H cI cJ cZ aH VH0 aS aP aQ aT ++ w_S cI cJ cZ aS VS0 VS1 VS2 NS0 NS1 NS2 LS0 LS1 LS2 LS3 LS4 LS5 LS6 LS7 LS8 IS0 aY ++ w_Y cI cJ cZ aY VY0 LY0 LY1 LY2 IY0 ++ w_P cI cJ cZ aP VP0 VP1 VP2 NP0 LP0 LP1 LP2 LP3 LP4 IP0 IP1 aS ++ w_P cI cJ cZ aQ VQ0 VQ1 VQ2 NQ0 LQ0 LQ1 LQ2 LQ3 LQ4 IQ0 IQ1 aS ++ w_T cI cJ cZ aT VT0 NT0 NT1 LT0 IT0 aS) := hD
  have hbl2 := hp_below (x := x1) (n := 4) (by omega)
  rw [hy2] at hbl2
  refine lv_if_eq (tgt := 23) hx hb d_HaulFlows_swell_5 (by decide) (fun c5 => ?_) (fun c5 => ?_)
  · replace hR := (if_pos c5).symm.trans hR
    refine lv_iconst (v := nI 0) hx hb d_HaulFlows_swell_23 (by decide) ?_
    subst hR
    exact W.zret (v := nI 0) hx hb hr (by decide) (fun t ht hW => ⟨⟨_, (), rfl, rfl, by rw [ht]; exact hP, va_K.moved hW.alike hK, hD⟩, hS.F ht⟩) hS.2.2 d_HaulFlows_swell_24
  · replace hR := (if_neg c5).symm.trans hR
    refine lv_lload_n hx hb d_HaulFlows_swell_8 rfl (lv_at hl 2 rfl) ?_
    obtain ⟨y9, hy9, hR⟩ := hw_bind hR
    have hM := c_HaulFlows_isSwell l dC dI cI cJ cZ H.size x2
    rw [hy9] at hM
    refine hw_callSi (As := [.long x2]) (rest := []) (wr := w_H cI cJ cZ aH VH0 aS aP aQ aT ++ w_S cI cJ cZ aS VS0 VS1 VS2 NS0 NS1 NS2 LS0 LS1 LS2 LS3 LS4 LS5 LS6 LS7 LS8 IS0 aY ++ w_Y cI cJ cZ aY VY0 LY0 LY1 LY2 IY0 ++ w_P cI cJ cZ aP VP0 VP1 VP2 NP0 LP0 LP1 LP2 LP3 LP4 IP0 IP1 aS ++ w_P cI cJ cZ aQ VQ0 VQ1 VQ2 NQ0 LQ0 LQ1 LQ2 LQ3 LQ4 IQ0 IQ1 aS ++ w_T cI cJ cZ aT VT0 NT0 NT1 LT0 IT0 aS) ⟨hx, hb, hml, hown, hG⟩ hM (hw_cwS 1 hG m_243 m_244 m_1 m_245 rfl rfl (by decide +kernel) ⟨Nat.le_of_ble_eq_true rfl, Nat.le_of_ble_eq_true rfl⟩) hK hP hD hS hA [] [0, 1, 2, 3, 4, 5, 6, 7, 8, 9, 10, 11, 12, 13, 14, 15, 16, 17, 18, 19, 20, 21, 22, 23, 24, 25, 26, 27, 28, 29, 30, 31, 32, 33, 34, 35, 36, 37, 38, 39, 40, 41, 42] rfl rfl (by decide) (by decide) (by decide) rfl hl.1 rfl (Nat.le_of_ble_eq_true rfl) d_HaulFlows_swell_9 ⟨Nat.le_of_ble_eq_true rfl, Nat.le_of_ble_eq_true rfl⟩ (fun H locs hP hD hS => ?_)
    have hP : va_P (dC, dI) vwCl (w_H cI cJ cZ aH VH0 aS aP aQ aT ++ w_S cI cJ cZ aS VS0 VS1 VS2 NS0 NS1 NS2 LS0 LS1 LS2 LS3 LS4 LS5 LS6 LS7 LS8 IS0 aY ++ w_Y cI cJ cZ aY VY0 LY0 LY1 LY2 IY0 ++ w_P cI cJ cZ aP VP0 VP1 VP2 NP0 LP0 LP1 LP2 LP3 LP4 IP0 IP1 aS ++ w_P cI cJ cZ aQ VQ0 VQ1 VQ2 NQ0 LQ0 LQ1 LQ2 LQ3 LQ4 IQ0 IQ1 aS ++ w_T cI cJ cZ aT VT0 NT0 NT1 LT0 IT0 aS) H := hP
    have hD : va_D A (w_H cI cJ cZ aH VH0 aS aP aQ aT ++ w_S cI cJ cZ aS VS0 VS1 VS2 NS0 NS1 NS2 LS0 LS1 LS2 LS3 LS4 LS5 LS6 LS7 LS8 IS0 aY ++ w_Y cI cJ cZ aY VY0 LY0 LY1 LY2 IY0 ++ w_P cI cJ cZ aP VP0 VP1 VP2 NP0 LP0 LP1 LP2 LP3 LP4 IP0 IP1 aS ++ w_P cI cJ cZ aQ VQ0 VQ1 VQ2 NQ0 LQ0 LQ1 LQ2 LQ3 LQ4 IQ0 IQ1 aS ++ w_T cI cJ cZ aT VT0 NT0 NT1 LT0 IT0 aS) := hD
    refine lv_if_eq (tgt := 23) hx hb d_HaulFlows_swell_12 (by decide) (fun c12 => ?_) (fun c12 => ?_)
    · replace hR := (if_pos c12).symm.trans hR
      refine lv_iconst (v := nI 0) hx hb d_HaulFlows_swell_23 (by decide) ?_
      subst hR
      exact W.zret (v := nI 0) hx hb hr (by decide) (fun t ht hW => ⟨⟨_, (), rfl, rfl, by rw [ht]; exact hP, va_K.moved hW.alike hK, hD⟩, hS.F ht⟩) hS.2.2 d_HaulFlows_swell_24
    · replace hR := (if_neg c12).symm.trans hR
      refine lv_lload hx hb d_HaulFlows_swell_15 (lv_at hl 3 rfl) ?_
      obtain ⟨y17, hy17, hR⟩ := hw_bind hR
      have hM := c_HaulFlows_isSwell l dC dI cI cJ cZ H.size x4
      rw [hy17] at hM
      refine hw_callSi (As := [.long x4]) (rest := []) (wr := w_H cI cJ cZ aH VH0 aS aP aQ aT ++ w_S cI cJ cZ aS VS0 VS1 VS2 NS0 NS1 NS2 LS0 LS1 LS2 LS3 LS4 LS5 LS6 LS7 LS8 IS0 aY ++ w_Y cI cJ cZ aY VY0 LY0 LY1 LY2 IY0 ++ w_P cI cJ cZ aP VP0 VP1 VP2 NP0 LP0 LP1 LP2 LP3 LP4 IP0 IP1 aS ++ w_P cI cJ cZ aQ VQ0 VQ1 VQ2 NQ0 LQ0 LQ1 LQ2 LQ3 LQ4 IQ0 IQ1 aS ++ w_T cI cJ cZ aT VT0 NT0 NT1 LT0 IT0 aS) ⟨hx, hb, hml, hown, hG⟩ hM (hw_cwS 1 hG m_243 m_244 m_1 m_245 rfl rfl (by decide +kernel) ⟨Nat.le_of_ble_eq_true rfl, Nat.le_of_ble_eq_true rfl⟩) hK hP hD hS hA [] [0, 1, 2, 3, 4, 5, 6, 7, 8, 9, 10, 11, 12, 13, 14, 15, 16, 17, 18, 19, 20, 21, 22, 23, 24, 25, 26, 27, 28, 29, 30, 31, 32, 33, 34, 35, 36, 37, 38, 39, 40, 41, 42] rfl rfl (by decide) (by decide) (by decide) rfl hl.1 rfl (Nat.le_of_ble_eq_true rfl) d_HaulFlows_swell_17 ⟨Nat.le_of_ble_eq_true rfl, Nat.le_of_ble_eq_true rfl⟩ (fun H locs hP hD hS => ?_)
      have hP : va_P (dC, dI) vwCl (w_H cI cJ cZ aH VH0 aS aP aQ aT ++ w_S cI cJ cZ aS VS0 VS1 VS2 NS0 NS1 NS2 LS0 LS1 LS2 LS3 LS4 LS5 LS6 LS7 LS8 IS0 aY ++ w_Y cI cJ cZ aY VY0 LY0 LY1 LY2 IY0 ++ w_P cI cJ cZ aP VP0 VP1 VP2 NP0 LP0 LP1 LP2 LP3 LP4 IP0 IP1 aS ++ w_P cI cJ cZ aQ VQ0 VQ1 VQ2 NQ0 LQ0 LQ1 LQ2 LQ3 LQ4 IQ0 IQ1 aS ++ w_T cI cJ cZ aT VT0 NT0 NT1 LT0 IT0 aS) H := hP
      have hD : va_D A (w_H cI cJ cZ aH VH0 aS aP aQ aT ++ w_S cI cJ cZ aS VS0 VS1 VS2 NS0 NS1 NS2 LS0 LS1 LS2 LS3 LS4 LS5 LS6 LS7 LS8 IS0 aY ++ w_Y cI cJ cZ aY VY0 LY0 LY1 LY2 IY0 ++ w_P cI cJ cZ aP VP0 VP1 VP2 NP0 LP0 LP1 LP2 LP3 LP4 IP0 IP1 aS ++ w_P cI cJ cZ aQ VQ0 VQ1 VQ2 NQ0 LQ0 LQ1 LQ2 LQ3 LQ4 IQ0 IQ1 aS ++ w_T cI cJ cZ aT VT0 NT0 NT1 LT0 IT0 aS) := hD
      refine lv_if_ne (tgt := 25) hx hb d_HaulFlows_swell_20 (by decide) (fun c20 => ?_) (fun c20 => ?_)
      · replace hR := (if_neg c20).symm.trans hR
        obtain ⟨hna1, hnb1⟩ := hbl2 c5
        have en25_1 : nI (x1.toNatClampNeg) = x1 := hw_nat hna1
        have hl : lv_has ls 6 [(0, .ref (aH 0)), (1, .int (nI x1.toNatClampNeg)), (2, .long x2), (4, .long x4)] := by rw [en25_1]; exact hl
        refine lv_aload_n hx hb d_HaulFlows_swell_25 rfl (lv_at hl 0 rfl) ?_
        refine lv_iconst (v := nI 0) hx hb d_HaulFlows_swell_26 (by decide) ?_
        refine va_put (D := (dC, dI)) (ci := 4) (v := .int (nI 0)) (ty := .int) (C := R_HaulFlows) (T := T_HaulFlows) (N := 5) hx hb hG in_HaulFlows ty_HaulFlows tok_HaulFlows nok_HaulFlows hown hK hP hD hS 0 rfl rfl 4 (by decide) (hG _ m_200) (fun _ h9 => h9) rfl (by decide +kernel) rfl rfl (Nat.le_of_ble_eq_true rfl) d_HaulFlows_swell_27 (fun H locs hP hD hS => ?_)
        have hP : va_P (dC, dI) vwCl (w_H cI cJ cZ aH 0 aS aP aQ aT ++ w_S cI cJ cZ aS VS0 VS1 VS2 NS0 NS1 NS2 LS0 LS1 LS2 LS3 LS4 LS5 LS6 LS7 LS8 IS0 aY ++ w_Y cI cJ cZ aY VY0 LY0 LY1 LY2 IY0 ++ w_P cI cJ cZ aP VP0 VP1 VP2 NP0 LP0 LP1 LP2 LP3 LP4 IP0 IP1 aS ++ w_P cI cJ cZ aQ VQ0 VQ1 VQ2 NQ0 LQ0 LQ1 LQ2 LQ3 LQ4 IQ0 IQ1 aS ++ w_T cI cJ cZ aT VT0 NT0 NT1 LT0 IT0 aS) H := hP
        have hD : va_D A (w_H cI cJ cZ aH 0 aS aP aQ aT ++ w_S cI cJ cZ aS VS0 VS1 VS2 NS0 NS1 NS2 LS0 LS1 LS2 LS3 LS4 LS5 LS6 LS7 LS8 IS0 aY ++ w_Y cI cJ cZ aY VY0 LY0 LY1 LY2 IY0 ++ w_P cI cJ cZ aP VP0 VP1 VP2 NP0 LP0 LP1 LP2 LP3 LP4 IP0 IP1 aS ++ w_P cI cJ cZ aQ VQ0 VQ1 VQ2 NQ0 LQ0 LQ1 LQ2 LQ3 LQ4 IQ0 IQ1 aS ++ w_T cI cJ cZ aT VT0 NT0 NT1 LT0 IT0 aS) := hD
        refine lv_aload_n hx hb d_HaulFlows_swell_30 rfl (lv_at hl 0 rfl) ?_
        refine va_get (D := (dC, dI)) (ci := 4) (v := .ref (aS 0)) (C := R_HaulFlows) (T := T_HaulFlows) (N := 5) hx hb hG in_HaulFlows hown hK hP 0 rfl rfl 0 (by decide) (hG _ m_196) (fun _ h9 => h9) rfl d_HaulFlows_swell_31 ?_
        refine va_get (D := (dC, dI)) (ci := 2) (v := .ref (aS 10)) (C := R_Site) (T := T_Site) (N := 17) hx hb hG in_Site hown hK hP 1 rfl rfl 13 (by decide) (hG _ m_83) (fun _ h9 => h9) rfl d_HaulFlows_swell_34 ?_
        refine lv_iload_n hx hb d_HaulFlows_swell_37 rfl (lv_at hl 1 rfl) ?_
        refine lv_lload_n hx hb d_HaulFlows_swell_38 rfl (lv_at hl 2 rfl) ?_
        refine hw_last (f := LS6) hx hb hK hP hD hS 11 1 rfl rfl (by decide) (by omega) d_HaulFlows_swell_39 (fun H locs hP hD hS => ?_)
        have hP : va_P (dC, dI) vwCl (w_H cI cJ cZ aH 0 aS aP aQ aT ++ w_S cI cJ cZ aS VS0 VS1 VS2 NS0 NS1 NS2 LS0 LS1 LS2 LS3 LS4 LS5 (vp_updL LS6 x1.toNatClampNeg x2) LS7 LS8 IS0 aY ++ w_Y cI cJ cZ aY VY0 LY0 LY1 LY2 IY0 ++ w_P cI cJ cZ aP VP0 VP1 VP2 NP0 LP0 LP1 LP2 LP3 LP4 IP0 IP1 aS ++ w_P cI cJ cZ aQ VQ0 VQ1 VQ2 NQ0 LQ0 LQ1 LQ2 LQ3 LQ4 IQ0 IQ1 aS ++ w_T cI cJ cZ aT VT0 NT0 NT1 LT0 IT0 aS) H := hP
        have hD : va_D A (w_H cI cJ cZ aH 0 aS aP aQ aT ++ w_S cI cJ cZ aS VS0 VS1 VS2 NS0 NS1 NS2 LS0 LS1 LS2 LS3 LS4 LS5 (vp_updL LS6 x1.toNatClampNeg x2) LS7 LS8 IS0 aY ++ w_Y cI cJ cZ aY VY0 LY0 LY1 LY2 IY0 ++ w_P cI cJ cZ aP VP0 VP1 VP2 NP0 LP0 LP1 LP2 LP3 LP4 IP0 IP1 aS ++ w_P cI cJ cZ aQ VQ0 VQ1 VQ2 NQ0 LQ0 LQ1 LQ2 LQ3 LQ4 IQ0 IQ1 aS ++ w_T cI cJ cZ aT VT0 NT0 NT1 LT0 IT0 aS) := hD
        refine lv_aload_n hx hb d_HaulFlows_swell_40 rfl (lv_at hl 0 rfl) ?_
        refine va_get (D := (dC, dI)) (ci := 4) (v := .ref (aS 0)) (C := R_HaulFlows) (T := T_HaulFlows) (N := 5) hx hb hG in_HaulFlows hown hK hP 0 rfl rfl 0 (by decide) (hG _ m_196) (fun _ h9 => h9) rfl d_HaulFlows_swell_41 ?_
        refine va_get (D := (dC, dI)) (ci := 2) (v := .ref (aS 11)) (C := R_Site) (T := T_Site) (N := 17) hx hb hG in_Site hown hK hP 1 rfl rfl 14 (by decide) (hG _ m_85) (fun _ h9 => h9) rfl d_HaulFlows_swell_44 ?_
        refine lv_iload_n hx hb d_HaulFlows_swell_47 rfl (lv_at hl 1 rfl) ?_
        refine lv_lload hx hb d_HaulFlows_swell_48 (lv_at hl 3 rfl) ?_
        refine hw_last (f := LS7) hx hb hK hP hD hS 12 1 rfl rfl (by decide) (by omega) d_HaulFlows_swell_50 (fun H locs hP hD hS => ?_)
        have hP : va_P (dC, dI) vwCl (w_H cI cJ cZ aH 0 aS aP aQ aT ++ w_S cI cJ cZ aS VS0 VS1 VS2 NS0 NS1 NS2 LS0 LS1 LS2 LS3 LS4 LS5 (vp_updL LS6 x1.toNatClampNeg x2) (vp_updL LS7 x1.toNatClampNeg x4) LS8 IS0 aY ++ w_Y cI cJ cZ aY VY0 LY0 LY1 LY2 IY0 ++ w_P cI cJ cZ aP VP0 VP1 VP2 NP0 LP0 LP1 LP2 LP3 LP4 IP0 IP1 aS ++ w_P cI cJ cZ aQ VQ0 VQ1 VQ2 NQ0 LQ0 LQ1 LQ2 LQ3 LQ4 IQ0 IQ1 aS ++ w_T cI cJ cZ aT VT0 NT0 NT1 LT0 IT0 aS) H := hP
        have hD : va_D A (w_H cI cJ cZ aH 0 aS aP aQ aT ++ w_S cI cJ cZ aS VS0 VS1 VS2 NS0 NS1 NS2 LS0 LS1 LS2 LS3 LS4 LS5 (vp_updL LS6 x1.toNatClampNeg x2) (vp_updL LS7 x1.toNatClampNeg x4) LS8 IS0 aY ++ w_Y cI cJ cZ aY VY0 LY0 LY1 LY2 IY0 ++ w_P cI cJ cZ aP VP0 VP1 VP2 NP0 LP0 LP1 LP2 LP3 LP4 IP0 IP1 aS ++ w_P cI cJ cZ aQ VQ0 VQ1 VQ2 NQ0 LQ0 LQ1 LQ2 LQ3 LQ4 IQ0 IQ1 aS ++ w_T cI cJ cZ aT VT0 NT0 NT1 LT0 IT0 aS) := hD
        refine lv_iconst (v := nI 1) hx hb d_HaulFlows_swell_51 (by decide) ?_
        subst hR
        exact W.zret (v := nI 1) hx hb hr (by decide) (fun t ht hW => ⟨⟨_, (), rfl, rfl, by rw [ht]; exact hP, va_K.moved hW.alike hK, hD⟩, hS.F ht⟩) hS.2.2 d_HaulFlows_swell_52
      · replace hR := (if_pos c20).symm.trans hR
        refine lv_iconst (v := nI 0) hx hb d_HaulFlows_swell_23 (by decide) ?_
        subst hR
        exact W.zret (v := nI 0) hx hb hr (by decide) (fun t ht hW => ⟨⟨_, (), rfl, rfl, by rw [ht]; exact hP, va_K.moved hW.alike hK, hD⟩, hS.F ht⟩) hS.2.2 d_HaulFlows_swell_24
def f_HaulFlows_fits (VH0 : Nat) (VS2 : Nat) (IS0 : Nat → Int32) (x1 : Int32) (x2 : Int32) (x3 : Int32) : Int32 × (Nat) × (Nat → Int32) :=
  hh_bind (f_HaulFlows_isBelow x1 (nI 4)) (fun y2 => if y2 = 0 then (nI 0, VH0, IS0) else (hh_bind (f_HaulFlows_isBelow x2 (nI VS2)) (fun y16 => if y16 = 0 then (nI 0, VH0, IS0) else (hh_bind (f_Site_setFit IS0 x1.toNatClampNeg x2.toNatClampNeg x3) (fun y36 => (nI 1, 0, y36))))))
set_option maxHeartbeats 4000000 in
set_option maxRecDepth 100000 in
theorem c_HaulFlows_fits (l : Launch) (dC : Nat → ClassId) (dI : Nat → Nat → Nat) (cI cJ cZ : ClassId) (sz : Nat) (aH : Nat → Nat) (VH0 : Nat) (aS : Nat → Nat) (VS0 : Nat) (VS1 : Nat) (VS2 : Nat) (NS0 : Nat → Nat) (NS1 : Nat → Nat) (NS2 : Nat → Nat) (LS0 : Nat → Int64) (LS1 : Nat → Int64) (LS2 : Nat → Int64) (LS3 : Nat → Int64) (LS4 : Nat → Int64) (LS5 : Nat → Int64) (LS6 : Nat → Int64) (LS7 : Nat → Int64) (LS8 : Nat → Int64) (IS0 : Nat → Int32) (aY : Nat → Nat) (VY0 : Nat) (LY0 : Nat → Int64) (LY1 : Nat → Int64) (LY2 : Nat → Int64) (IY0 : Nat → Int32) (aP : Nat → Nat) (VP0 : Nat) (VP1 : Nat) (VP2 : Nat) (NP0 : Nat → Nat) (LP0 : Nat → Int64) (LP1 : Nat → Int64) (LP2 : Nat → Int64) (LP3 : Nat → Int64) (LP4 : Nat → Int64) (IP0 : Nat → Int32) (IP1 : Nat → Int32) (aQ : Nat → Nat) (VQ0 : Nat) (VQ1 : Nat) (VQ2 : Nat) (NQ0 : Nat → Nat) (LQ0 : Nat → Int64) (LQ1 : Nat → Int64) (LQ2 : Nat → Int64) (LQ3 : Nat → Int64) (LQ4 : Nat → Int64) (IQ0 : Nat → Int32) (IQ1 : Nat → Int32) (aT : Nat → Nat) (VT0 : Nat) (NT0 : Nat → Nat) (NT1 : Nat → Nat) (LT0 : Nat → Int64) (IT0 : Nat → Int32) (x1 : Int32) (x2 : Int32) (x3 : Int32) (hc8 : VS0 ≤ 8) (hp4 : VS1 ≤ 4) (hf8 : VS2 ≤ 8) (hy6 : VY0 ≤ 6) (hk4 : ∀ i, NS0 i < 4) (hcw : ∀ i, NS1 i < 12) (hfw : ∀ i, NS2 i < 12) (hq : ∀ i, NP0 i < 21) (htq : ∀ i, NT1 i < 34) (hst : VH0 ≤ 2) (hpl : VH0 = 1 → VP0 = VS0 + VS1 ∧ VP1 = VS2) (hsf : VT0 ≤ 8) : hh_Ci l y_HaulFlows_fits u_HaulFlows_fits ({ frames := 1, cells := 0, slots := 0, locals := 23 }) (dC, dI) vwCl [(cI, .int), (cJ, .long), (cZ, .boolean)] (w_H cI cJ cZ aH VH0 aS aP aQ aT ++ w_S cI cJ cZ aS VS0 VS1 VS2 NS0 NS1 NS2 LS0 LS1 LS2 LS3 LS4 LS5 LS6 LS7 LS8 IS0 aY ++ w_Y cI cJ cZ aY VY0 LY0 LY1 LY2 IY0 ++ w_P cI cJ cZ aP VP0 VP1 VP2 NP0 LP0 LP1 LP2 LP3 LP4 IP0 IP1 aS ++ w_P cI cJ cZ aQ VQ0 VQ1 VQ2 NQ0 LQ0 LQ1 LQ2 LQ3 LQ4 IQ0 IQ1 aS ++ w_T cI cJ cZ aT VT0 NT0 NT1 LT0 IT0 aS) sz [.ref (aH 0), .int x1, .int x2, .int x3] ((f_HaulFlows_fits VH0 VS2 IS0 x1 x2 x3).1) (w_H cI cJ cZ aH ((f_HaulFlows_fits VH0 VS2 IS0 x1 x2 x3).2.1) aS aP aQ aT ++ w_S cI cJ cZ aS VS0 VS1 VS2 NS0 NS1 NS2 LS0 LS1 LS2 LS3 LS4 LS5 LS6 LS7 LS8 ((f_HaulFlows_fits VH0 VS2 IS0 x1 x2 x3).2.2) aY ++ w_Y cI cJ cZ aY VY0 LY0 LY1 LY2 IY0 ++ w_P cI cJ cZ aP VP0 VP1 VP2 NP0 LP0 LP1 LP2 LP3 LP4 IP0 IP1 aS ++ w_P cI cJ cZ aQ VQ0 VQ1 VQ2 NQ0 LQ0 LQ1 LQ2 LQ3 LQ4 IQ0 IQ1 aS ++ w_T cI cJ cZ aT VT0 NT0 NT1 LT0 IT0 aS) 0 0 := by
  unfold hh_Ci
  refine Met.ofW (cc := b_HaulFlows_fits) (maxL := 4) (ret := (some .boolean)) (by decide) rfl ?_
  intro p e s m args below meth c s₁ B hml hv
  obtain ⟨rfl, hsz, hP, hK, hD0⟩ := hv
  have hx := B.exec
  have hb := B.bytes
  have hr := B.returns
  have hts := atoms_spec (ws := u_HaulFlows_fits) B.pre
  have hG : ∀ w ∈ wG, w.before ([.ref (aH 0), .int x1, .int x2, .int x3]).toArray s = true := fun w h => hts w (List.mem_cons_of_mem _ h)
  have hown : s.vm.findClass R_HaulFlows = some m.cls := findClass_of_methodNamed B.named
  have hlocks := B.notSynchronized
  subst hsz
  have hD := hD0.self (sz := s.heap.size)
  generalize hAe : va_A (w_H cI cJ cZ aH VH0 aS aP aQ aT ++ w_S cI cJ cZ aS VS0 VS1 VS2 NS0 NS1 NS2 LS0 LS1 LS2 LS3 LS4 LS5 LS6 LS7 LS8 IS0 aY ++ w_Y cI cJ cZ aY VY0 LY0 LY1 LY2 IY0 ++ w_P cI cJ cZ aP VP0 VP1 VP2 NP0 LP0 LP1 LP2 LP3 LP4 IP0 IP1 aS ++ w_P cI cJ cZ aQ VQ0 VQ1 VQ2 NQ0 LQ0 LQ1 LQ2 LQ3 LQ4 IQ0 IQ1 aS ++ w_T cI cJ cZ aT VT0 NT0 NT1 LT0 IT0 aS) s.heap.size = A at hD ⊢
  have hA : ∀ q : Nat, s.heap.size ≤ q → A q := fun q h => by rw [← hAe]; exact Or.inr h
  have hS : va_S A s.heap s.heap [] := va_S.rf
  have hl := lv_entry ([.ref (aH 0), .int x1, .int x2, .int x3]) (n := 4) (Nat.le_of_ble_eq_true rfl)
  rw [lg_entry_eq]
  generalize (lg_sl ([.ref (aH 0), .int x1, .int x2, .int x3]) ++ List.replicate (4 - (lg_sl ([.ref (aH 0), .int x1, .int x2, .int x3])).length) Slot.unset).toArray = ls at hl ⊢
  have hl : lv_has ls 4 [(0, .ref (aH 0)), (1, .int x1), (2, .int x2), (3, .int x3)] := hl
  generalize hR : f_HaulFlows_fits VH0 VS2 IS0 x1 x2 x3 = r0
  obtain ⟨H, locs, hHe, hle⟩ : ∃ (H : Heap) (locs : List Loc), s.heap = H ∧ [] = locs := ⟨_, _, rfl, rfl⟩
  have hP : va_P (dC, dI) vwCl (w_H cI cJ cZ aH VH0 aS aP aQ aT ++ w_S cI cJ cZ aS VS0 VS1 VS2 NS0 NS1 NS2 LS0 LS1 LS2 LS3 LS4 LS5 LS6 LS7 LS8 IS0 aY ++ w_Y cI cJ cZ aY VY0 LY0 LY1 LY2 IY0 ++ w_P cI cJ cZ aP VP0 VP1 VP2 NP0 LP0 LP1 LP2 LP3 LP4 IP0 IP1 aS ++ w_P cI cJ cZ aQ VQ0 VQ1 VQ2 NQ0 LQ0 LQ1 LQ2 LQ3 LQ4 IQ0 IQ1 aS ++ w_T cI cJ cZ aT VT0 NT0 NT1 LT0 IT0 aS) H := by rw [← hHe]; exact hP
  have hS : va_S A s.heap H locs := by rw [← hHe, ← hle]; exact hS
  refine hw_start hHe hle ?_
  unfold f_HaulFlows_fits at hR
  refine lv_iload_n hx hb d_HaulFlows_fits_0 rfl (lv_at hl 1 rfl) ?_
  refine lv_iconst (v := nI 4) hx hb d_HaulFlows_fits_1 (by decide) ?_
  obtain ⟨y2, hy2, hR⟩ := hw_bind hR
  have hM := c_HaulFlows_isBelow l dC dI cI cJ cZ H.size x1 (nI 4)
  rw [hy2] at hM
  refine hw_callSi (As := [.int x1, .int (nI 4)]) (rest := []) (wr := w_H cI cJ cZ aH VH0 aS aP aQ aT ++ w_S cI cJ cZ aS VS0 VS1 VS2 NS0 NS1 NS2 LS0 LS1 LS2 LS3 LS4 LS5 LS6 LS7 LS8 IS0 aY ++ w_Y cI cJ cZ aY VY0 LY0 LY1 LY2 IY0 ++ w_P cI cJ cZ aP VP0 VP1 VP2 NP0 LP0 LP1 LP2 LP3 LP4 IP0 IP1 aS ++ w_P cI cJ cZ aQ VQ0 VQ1 VQ2 NQ0 LQ0 LQ1 LQ2 LQ3 LQ4 IQ0 IQ1 aS ++ w_T cI cJ cZ aT VT0 NT0 NT1 LT0 IT0 aS) ⟨hx, hb, hml, hown, hG⟩ hM (hw_cwS 2 hG m_220 m_221 m_1 m_222 rfl rfl (by decide +kernel) ⟨Nat.le_of_ble_eq_true rfl, Nat.le_of_ble_eq_true rfl⟩) hK hP hD hS hA [] [0, 1, 2, 3, 4, 5, 6, 7, 8, 9, 10, 11, 12, 13, 14, 15, 16, 17, 18, 19, 20, 21, 22, 23, 24, 25, 26, 27, 28, 29, 30, 31, 32, 33, 34, 35, 36, 37, 38, 39, 40, 41, 42] rfl rfl (by decide) (by decide) (by decide) rfl hl.1 rfl (Nat.le_of_ble_eq_true rfl) d_HaulFlows_fits_2 ⟨Nat.le_of_ble_eq_true rfl, Nat.le_of_ble_eq_true rfl⟩ (fun H locs hP hD hS => ?_)
  have hP : va_P (dC, dI) vwCl (w_H cI cJ cZ aH VH0 aS aP aQ aT ++ w_S cI cJ cZ aS VS0 VS1 VS2 NS0 NS1 NS2 LS0 LS1 LS2 LS3 LS4 LS5 LS6 LS7 LS8 IS0 aY ++ w_Y cI cJ cZ aY VY0 LY0 LY1 LY2 IY0 ++ w_P cI cJ cZ aP VP0 VP1 VP2 NP0 LP0 LP1 LP2 LP3 LP4 IP0 IP1 aS ++ w_P cI cJ cZ aQ VQ0 VQ1 VQ2 NQ0 LQ0 LQ1 LQ2 LQ3 LQ4 IQ0 IQ1 aS ++ w_T cI cJ cZ aT VT0 NT0 NT1 LT0 IT0 aS) H := hP
  have hD : va_D A (w_H cI cJ cZ aH VH0 aS aP aQ aT ++ w_S cI cJ cZ aS VS0 VS1 VS2 NS0 NS1 NS2 LS0 LS1 LS2 LS3 LS4 LS5 LS6 LS7 LS8 IS0 aY ++ w_Y cI cJ cZ aY VY0 LY0 LY1 LY2 IY0 ++ w_P cI cJ cZ aP VP0 VP1 VP2 NP0 LP0 LP1 LP2 LP3 LP4 IP0 IP1 aS ++ w_P cI cJ cZ aQ VQ0 VQ1 VQ2 NQ0 LQ0 LQ1 LQ2 LQ3 LQ4 IQ0 IQ1 aS ++ w_T cI cJ cZ aT VT0 NT0 NT1 LT0 IT0 aS) := hD
  have hbl2 := hp_below (x := x1) (n := 4) (by omega)
  rw [hy2] at hbl2
  refine lv_if_eq (tgt := 22) hx hb d_HaulFlows_fits_5 (by decide) (fun c5 => ?_) (fun c5 => ?_)
  · replace hR := (if_pos c5).symm.trans hR
    refine lv_iconst (v := nI 0) hx hb d_HaulFlows_fits_22 (by decide) ?_
    subst hR
    exact W.zret (v := nI 0) hx hb hr (by decide) (fun t ht hW => ⟨⟨_, (), rfl, rfl, by rw [ht]; exact hP, va_K.moved hW.alike hK, hD⟩, hS.F ht⟩) hS.2.2 d_HaulFlows_fits_23
  · replace hR := (if_neg c5).symm.trans hR
    refine lv_iload_n hx hb d_HaulFlows_fits_8 rfl (lv_at hl 2 rfl) ?_
    refine lv_aload_n hx hb d_HaulFlows_fits_9 rfl (lv_at hl 0 rfl) ?_
    refine va_get (D := (dC, dI)) (ci := 4) (v := .ref (aS 0)) (C := R_HaulFlows) (T := T_HaulFlows) (N := 5) hx hb hG in_HaulFlows hown hK hP 0 rfl rfl 0 (by decide) (hG _ m_196) (fun _ h9 => h9) rfl d_HaulFlows_fits_10 ?_
    refine va_get (D := (dC, dI)) (ci := 2) (v := .int (nI VS2)) (C := R_Site) (T := T_Site) (N := 17) hx hb hG in_Site hown hK hP 1 rfl rfl 2 (by decide) (hG _ m_62) (fun _ h9 => h9) rfl d_HaulFlows_fits_13 ?_
    obtain ⟨y16, hy16, hR⟩ := hw_bind hR
    have hM := c_HaulFlows_isBelow l dC dI cI cJ cZ H.size x2 (nI VS2)
    rw [hy16] at hM
    refine hw_callSi (As := [.int x2, .int (nI VS2)]) (rest := []) (wr := w_H cI cJ cZ aH VH0 aS aP aQ aT ++ w_S cI cJ cZ aS VS0 VS1 VS2 NS0 NS1 NS2 LS0 LS1 LS2 LS3 LS4 LS5 LS6 LS7 LS8 IS0 aY ++ w_Y cI cJ cZ aY VY0 LY0 LY1 LY2 IY0 ++ w_P cI cJ cZ aP VP0 VP1 VP2 NP0 LP0 LP1 LP2 LP3 LP4 IP0 IP1 aS ++ w_P cI cJ cZ aQ VQ0 VQ1 VQ2 NQ0 LQ0 LQ1 LQ2 LQ3 LQ4 IQ0 IQ1 aS ++ w_T cI cJ cZ aT VT0 NT0 NT1 LT0 IT0 aS) ⟨hx, hb, hml, hown, hG⟩ hM (hw_cwS 2 hG m_220 m_221 m_1 m_222 rfl rfl (by decide +kernel) ⟨Nat.le_of_ble_eq_true rfl, Nat.le_of_ble_eq_true rfl⟩) hK hP hD hS hA [] [0, 1, 2, 3, 4, 5, 6, 7, 8, 9, 10, 11, 12, 13, 14, 15, 16, 17, 18, 19, 20, 21, 22, 23, 24, 25, 26, 27, 28, 29, 30, 31, 32, 33, 34, 35, 36, 37, 38, 39, 40, 41, 42] rfl rfl (by decide) (by decide) (by decide) rfl hl.1 rfl (Nat.le_of_ble_eq_true rfl) d_HaulFlows_fits_16 ⟨Nat.le_of_ble_eq_true rfl, Nat.le_of_ble_eq_true rfl⟩ (fun H locs hP hD hS => ?_)
    have hP : va_P (dC, dI) vwCl (w_H cI cJ cZ aH VH0 aS aP aQ aT ++ w_S cI cJ cZ aS VS0 VS1 VS2 NS0 NS1 NS2 LS0 LS1 LS2 LS3 LS4 LS5 LS6 LS7 LS8 IS0 aY ++ w_Y cI cJ cZ aY VY0 LY0 LY1 LY2 IY0 ++ w_P cI cJ cZ aP VP0 VP1 VP2 NP0 LP0 LP1 LP2 LP3 LP4 IP0 IP1 aS ++ w_P cI cJ cZ aQ VQ0 VQ1 VQ2 NQ0 LQ0 LQ1 LQ2 LQ3 LQ4 IQ0 IQ1 aS ++ w_T cI cJ cZ aT VT0 NT0 NT1 LT0 IT0 aS) H := hP
    have hD : va_D A (w_H cI cJ cZ aH VH0 aS aP aQ aT ++ w_S cI cJ cZ aS VS0 VS1 VS2 NS0 NS1 NS2 LS0 LS1 LS2 LS3 LS4 LS5 LS6 LS7 LS8 IS0 aY ++ w_Y cI cJ cZ aY VY0 LY0 LY1 LY2 IY0 ++ w_P cI cJ cZ aP VP0 VP1 VP2 NP0 LP0 LP1 LP2 LP3 LP4 IP0 IP1 aS ++ w_P cI cJ cZ aQ VQ0 VQ1 VQ2 NQ0 LQ0 LQ1 LQ2 LQ3 LQ4 IQ0 IQ1 aS ++ w_T cI cJ cZ aT VT0 NT0 NT1 LT0 IT0 aS) := hD
    have hbl16 := hp_below (x := x2) (n := VS2) (by omega)
    rw [hy16] at hbl16
    refine lv_if_ne (tgt := 24) hx hb d_HaulFlows_fits_19 (by decide) (fun c19 => ?_) (fun c19 => ?_)
    · replace hR := (if_neg c19).symm.trans hR
      obtain ⟨hna1, hnb1⟩ := hbl2 c5
      obtain ⟨hna2, hnb2⟩ := hbl16 c19
      have en24_1 : nI (x1.toNatClampNeg) = x1 := hw_nat hna1
      have hl : lv_has ls 4 [(0, .ref (aH 0)), (1, .int (nI x1.toNatClampNeg)), (2, .int x2), (3, .int x3)] := by rw [en24_1]; exact hl
      have en24_2 : nI (x2.toNatClampNeg) = x2 := hw_nat hna2
      have hl : lv_has ls 4 [(0, .ref (aH 0)), (1, .int (nI x1.toNatClampNeg)), (2, .int (nI x2.toNatClampNeg)), (3, .int x3)] := by rw [en24_2]; exact hl
      refine lv_aload_n hx hb d_HaulFlows_fits_24 rfl (lv_at hl 0 rfl) ?_
      refine lv_iconst (v := nI 0) hx hb d_HaulFlows_fits_25 (by decide) ?_
      refine va_put (D := (dC, dI)) (ci := 4) (v := .int (nI 0)) (ty := .int) (C := R_HaulFlows) (T := T_HaulFlows) (N := 5) hx hb hG in_HaulFlows ty_HaulFlows tok_HaulFlows nok_HaulFlows hown hK hP hD hS 0 rfl rfl 4 (by decide) (hG _ m_200) (fun _ h9 => h9) rfl (by decide +kernel) rfl rfl (Nat.le_of_ble_eq_true rfl) d_HaulFlows_fits_26 (fun H locs hP hD hS => ?_)
      have hP : va_P (dC, dI) vwCl (w_H cI cJ cZ aH 0 aS aP aQ aT ++ w_S cI cJ cZ aS VS0 VS1 VS2 NS0 NS1 NS2 LS0 LS1 LS2 LS3 LS4 LS5 LS6 LS7 LS8 IS0 aY ++ w_Y cI cJ cZ aY VY0 LY0 LY1 LY2 IY0 ++ w_P cI cJ cZ aP VP0 VP1 VP2 NP0 LP0 LP1 LP2 LP3 LP4 IP0 IP1 aS ++ w_P cI cJ cZ aQ VQ0 VQ1 VQ2 NQ0 LQ0 LQ1 LQ2 LQ3 LQ4 IQ0 IQ1 aS ++ w_T cI cJ cZ aT VT0 NT0 NT1 LT0 IT0 aS) H := hP
      have hD : va_D A (w_H cI cJ cZ aH 0 aS aP aQ aT ++ w_S cI cJ cZ aS VS0 VS1 VS2 NS0 NS1 NS2 LS0 LS1 LS2 LS3 LS4 LS5 LS6 LS7 LS8 IS0 aY ++ w_Y cI cJ cZ aY VY0 LY0 LY1 LY2 IY0 ++ w_P cI cJ cZ aP VP0 VP1 VP2 NP0 LP0 LP1 LP2 LP3 LP4 IP0 IP1 aS ++ w_P cI cJ cZ aQ VQ0 VQ1 VQ2 NQ0 LQ0 LQ1 LQ2 LQ3 LQ4 IQ0 IQ1 aS ++ w_T cI cJ cZ aT VT0 NT0 NT1 LT0 IT0 aS) := hD
      refine lv_aload_n hx hb d_HaulFlows_fits_29 rfl (lv_at hl 0 rfl) ?_
      refine va_get (D := (dC, dI)) (ci := 4) (v := .ref (aS 0)) (C := R_HaulFlows) (T := T_HaulFlows) (N := 5) hx hb hG in_HaulFlows hown hK hP 0 rfl rfl 0 (by decide) (hG _ m_196) (fun _ h9 => h9) rfl d_HaulFlows_fits_30 ?_
      refine lv_iload_n hx hb d_HaulFlows_fits_33 rfl (lv_at hl 1 rfl) ?_
      refine lv_iload_n hx hb d_HaulFlows_fits_34 rfl (lv_at hl 2 rfl) ?_
      refine lv_iload_n hx hb d_HaulFlows_fits_35 rfl (lv_at hl 3 rfl) ?_
      obtain ⟨y36, hy36, hR⟩ := hw_bind hR
      have hM := c_Site_setFit l dC dI cI cJ cZ H.size aS VS0 VS1 VS2 NS0 NS1 NS2 LS0 LS1 LS2 LS3 LS4 LS5 LS6 LS7 LS8 IS0 aY VY0 LY0 LY1 LY2 IY0 x1.toNatClampNeg x2.toNatClampNeg x3 (by first | assumption | omega) (by first | assumption | omega)
      rw [hy36] at hM
      refine hw_callVv (As := [.int (nI x1.toNatClampNeg), .int (nI x2.toNatClampNeg), .int x3]) (rest := []) (wr := w_H cI cJ cZ aH 0 aS aP aQ aT ++ w_P cI cJ cZ aP VP0 VP1 VP2 NP0 LP0 LP1 LP2 LP3 LP4 IP0 IP1 aS ++ w_P cI cJ cZ aQ VQ0 VQ1 VQ2 NQ0 LQ0 LQ1 LQ2 LQ3 LQ4 IQ0 IQ1 aS ++ w_T cI cJ cZ aT VT0 NT0 NT1 LT0 IT0 aS) ⟨hx, hb, hml, hown, hG⟩ hM (hw_cwV 3 hG m_251 m_252 m_253 m_2 m_254 rfl rfl (by decide +kernel) ⟨Nat.le_of_ble_eq_true rfl, Nat.le_of_ble_eq_true rfl⟩) hK hP hD hS hA [1, 2, 3, 4, 5, 6, 7, 8, 9, 10, 11, 12, 13, 14, 15, 16, 17, 18, 19] [0, 20, 21, 22, 23, 24, 25, 26, 27, 28, 29, 30, 31, 32, 33, 34, 35, 36, 37, 38, 39, 40, 41, 42] rfl rfl (by decide) (by decide) (by decide) (hw_recv hK hP 1 rfl rfl) rfl hl.1 rfl (Nat.le_of_ble_eq_true rfl) d_HaulFlows_fits_36 ⟨Nat.le_of_ble_eq_true rfl, Nat.le_of_ble_eq_true rfl⟩ (fun H locs hP hD hS => ?_)
      have hP : va_P (dC, dI) vwCl (w_H cI cJ cZ aH 0 aS aP aQ aT ++ w_S cI cJ cZ aS VS0 VS1 VS2 NS0 NS1 NS2 LS0 LS1 LS2 LS3 LS4 LS5 LS6 LS7 LS8 y36 aY ++ w_Y cI cJ cZ aY VY0 LY0 LY1 LY2 IY0 ++ w_P cI cJ cZ aP VP0 VP1 VP2 NP0 LP0 LP1 LP2 LP3 LP4 IP0 IP1 aS ++ w_P cI cJ cZ aQ VQ0 VQ1 VQ2 NQ0 LQ0 LQ1 LQ2 LQ3 LQ4 IQ0 IQ1 aS ++ w_T cI cJ cZ aT VT0 NT0 NT1 LT0 IT0 aS) H := hP.sub [0, 24, 25, 26, 27, 28, 29, 30, 31, 32, 33, 34, 35, 36, 37, 38, 39, 40, 41, 42, 1, 2, 3, 4, 5, 6, 7, 8, 9, 10, 11, 12, 13, 14, 15, 16, 17, 18, 19, 20, 21, 22, 23] rfl
      have hD : va_D A (w_H cI cJ cZ aH 0 aS aP aQ aT ++ w_S cI cJ cZ aS VS0 VS1 VS2 NS0 NS1 NS2 LS0 LS1 LS2 LS3 LS4 LS5 LS6 LS7 LS8 y36 aY ++ w_Y cI cJ cZ aY VY0 LY0 LY1 LY2 IY0 ++ w_P cI cJ cZ aP VP0 VP1 VP2 NP0 LP0 LP1 LP2 LP3 LP4 IP0 IP1 aS ++ w_P cI cJ cZ aQ VQ0 VQ1 VQ2 NQ0 LQ0 LQ1 LQ2 LQ3 LQ4 IQ0 IQ1 aS ++ w_T cI cJ cZ aT VT0 NT0 NT1 LT0 IT0 aS) := hD.sub [0, 24, 25, 26, 27, 28, 29, 30, 31, 32, 33, 34, 35, 36, 37, 38, 39, 40, 41, 42, 1, 2, 3, 4, 5, 6, 7, 8, 9, 10, 11, 12, 13, 14, 15, 16, 17, 18, 19, 20, 21, 22, 23] (by decide) rfl
      refine lv_iconst (v := nI 1) hx hb d_HaulFlows_fits_39 (by decide) ?_
      subst hR
      exact W.zret (v := nI 1) hx hb hr (by decide) (fun t ht hW => ⟨⟨_, (), rfl, rfl, by rw [ht]; exact hP, va_K.moved hW.alike hK, hD⟩, hS.F ht⟩) hS.2.2 d_HaulFlows_fits_40
    · replace hR := (if_pos c19).symm.trans hR
      refine lv_iconst (v := nI 0) hx hb d_HaulFlows_fits_22 (by decide) ?_
      subst hR
      exact W.zret (v := nI 0) hx hb hr (by decide) (fun t ht hW => ⟨⟨_, (), rfl, rfl, by rw [ht]; exact hP, va_K.moved hW.alike hK, hD⟩, hS.F ht⟩) hS.2.2 d_HaulFlows_fits_23
def f_HaulFlows_way (VH0 : Nat) (VY0 : Nat) (LY0 : Nat → Int64) (LY1 : Nat → Int64) (LY2 : Nat → Int64) (x1 : Int64) (x3 : Int64) (x5 : Int64) : Int32 × (Nat) × (Nat) × (Nat → Int64) × (Nat → Int64) × (Nat → Int64) :=
  hh_bind (f_HaulFlows_isMetre x1) (fun y1 => if y1 = 0 then ((-1), VH0, VY0, LY0, LY1, LY2) else (hh_bind (f_HaulFlows_isMetre x3) (fun y8 => if y8 = 0 then ((-1), VH0, VY0, LY0, LY1, LY2) else (hh_bind (f_HaulFlows_isCents x5) (fun y16 => if y16 = 0 then ((-1), VH0, VY0, LY0, LY1, LY2) else (if VY0 < 6 then (hh_bind (f_Ways_add VY0 LY0 LY1 LY2 x1 x3 x5) (fun y55 => (nI y55.1, 0, y55.2.1, y55.2.2.1, y55.2.2.2.1, y55.2.2.2.2))) else ((-1), VH0, VY0, LY0, LY1, LY2)))))))
set_option maxHeartbeats 4000000 in
set_option maxRecDepth 100000 in
theorem c_HaulFlows_way (l : Launch) (dC : Nat → ClassId) (dI : Nat → Nat → Nat) (cI cJ cZ : ClassId) (sz : Nat) (aH : Nat → Nat) (VH0 : Nat) (aS : Nat → Nat) (VS0 : Nat) (VS1 : Nat) (VS2 : Nat) (NS0 : Nat → Nat) (NS1 : Nat → Nat) (NS2 : Nat → Nat) (LS0 : Nat → Int64) (LS1 : Nat → Int64) (LS2 : Nat → Int64) (LS3 : Nat → Int64) (LS4 : Nat → Int64) (LS5 : Nat → Int64) (LS6 : Nat → Int64) (LS7 : Nat → Int64) (LS8 : Nat → Int64) (IS0 : Nat → Int32) (aY : Nat → Nat) (VY0 : Nat) (LY0 : Nat → Int64) (LY1 : Nat → Int64) (LY2 : Nat → Int64) (IY0 : Nat → Int32) (aP : Nat → Nat) (VP0 : Nat) (VP1 : Nat) (VP2 : Nat) (NP0 : Nat → Nat) (LP0 : Nat → Int64) (LP1 : Nat → Int64) (LP2 : Nat → Int64) (LP3 : Nat → Int64) (LP4 : Nat → Int64) (IP0 : Nat → Int32) (IP1 : Nat → Int32) (aQ : Nat → Nat) (VQ0 : Nat) (VQ1 : Nat) (VQ2 : Nat) (NQ0 : Nat → Nat) (LQ0 : Nat → Int64) (LQ1 : Nat → Int64) (LQ2 : Nat → Int64) (LQ3 : Nat → Int64) (LQ4 : Nat → Int64) (IQ0 : Nat → Int32) (IQ1 : Nat → Int32) (aT : Nat → Nat) (VT0 : Nat) (NT0 : Nat → Nat) (NT1 : Nat → Nat) (LT0 : Nat → Int64) (IT0 : Nat → Int32) (x1 : Int64) (x3 : Int64) (x5 : Int64) (hc8 : VS0 ≤ 8) (hp4 : VS1 ≤ 4) (hf8 : VS2 ≤ 8) (hy6 : VY0 ≤ 6) (hk4 : ∀ i, NS0 i < 4) (hcw : ∀ i, NS1 i < 12) (hfw : ∀ i, NS2 i < 12) (hq : ∀ i, NP0 i < 21) (htq : ∀ i, NT1 i < 34) (hst : VH0 ≤ 2) (hpl : VH0 = 1 → VP0 = VS0 + VS1 ∧ VP1 = VS2) (hsf : VT0 ≤ 8) : hh_Ci l y_HaulFlows_way u_HaulFlows_way ({ frames := 1, cells := 0, slots := 0, locals := 26 }) (dC, dI) vwCl [(cI, .int), (cJ, .long), (cZ, .boolean)] (w_H cI cJ cZ aH VH0 aS aP aQ aT ++ w_S cI cJ cZ aS VS0 VS1 VS2 NS0 NS1 NS2 LS0 LS1 LS2 LS3 LS4 LS5 LS6 LS7 LS8 IS0 aY ++ w_Y cI cJ cZ aY VY0 LY0 LY1 LY2 IY0 ++ w_P cI cJ cZ aP VP0 VP1 VP2 NP0 LP0 LP1 LP2 LP3 LP4 IP0 IP1 aS ++ w_P cI cJ cZ aQ VQ0 VQ1 VQ2 NQ0 LQ0 LQ1 LQ2 LQ3 LQ4 IQ0 IQ1 aS ++ w_T cI cJ cZ aT VT0 NT0 NT1 LT0 IT0 aS) sz [.ref (aH 0), .long x1, .long x3, .long x5] ((f_HaulFlows_way VH0 VY0 LY0 LY1 LY2 x1 x3 x5).1) (w_H cI cJ cZ aH ((f_HaulFlows_way VH0 VY0 LY0 LY1 LY2 x1 x3 x5).2.1) aS aP aQ aT ++ w_S cI cJ cZ aS VS0 VS1 VS2 NS0 NS1 NS2 LS0 LS1 LS2 LS3 LS4 LS5 LS6 LS7 LS8 IS0 aY ++ w_Y cI cJ cZ aY ((f_HaulFlows_way VH0 VY0 LY0 LY1 LY2 x1 x3 x5).2.2.1) ((f_HaulFlows_way VH0 VY0 LY0 LY1 LY2 x1 x3 x5).2.2.2.1) ((f_HaulFlows_way VH0 VY0 LY0 LY1 LY2 x1 x3 x5).2.2.2.2.1) ((f_HaulFlows_way VH0 VY0 LY0 LY1 LY2 x1 x3 x5).2.2.2.2.2) IY0 ++ w_P cI cJ cZ aP VP0 VP1 VP2 NP0 LP0 LP1 LP2 LP3 LP4 IP0 IP1 aS ++ w_P cI cJ cZ aQ VQ0 VQ1 VQ2 NQ0 LQ0 LQ1 LQ2 LQ3 LQ4 IQ0 IQ1 aS ++ w_T cI cJ cZ aT VT0 NT0 NT1 LT0 IT0 aS) 0 0 := by
  unfold hh_Ci
  refine Met.ofW (cc := b_HaulFlows_way) (maxL := 7) (ret := (some .int)) (by decide) rfl ?_
  intro p e s m args below meth c s₁ B hml hv
  obtain ⟨rfl, hsz, hP, hK, hD0⟩ := hv
  have hx := B.exec
  have hb := B.bytes
  have hr := B.returns
  have hts := atoms_spec (ws := u_HaulFlows_way) B.pre
  have hG : ∀ w ∈ wG, w.before ([.ref (aH 0), .long x1, .long x3, .long x5]).toArray s = true := fun w h => hts w (List.mem_cons_of_mem _ h)
  have hown : s.vm.findClass R_HaulFlows = some m.cls := findClass_of_methodNamed B.named
  have hlocks := B.notSynchronized
  subst hsz
  have hD := hD0.self (sz := s.heap.size)
  generalize hAe : va_A (w_H cI cJ cZ aH VH0 aS aP aQ aT ++ w_S cI cJ cZ aS VS0 VS1 VS2 NS0 NS1 NS2 LS0 LS1 LS2 LS3 LS4 LS5 LS6 LS7 LS8 IS0 aY ++ w_Y cI cJ cZ aY VY0 LY0 LY1 LY2 IY0 ++ w_P cI cJ cZ aP VP0 VP1 VP2 NP0 LP0 LP1 LP2 LP3 LP4 IP0 IP1 aS ++ w_P cI cJ cZ aQ VQ0 VQ1 VQ2 NQ0 LQ0 LQ1 LQ2 LQ3 LQ4 IQ0 IQ1 aS ++ w_T cI cJ cZ aT VT0 NT0 NT1 LT0 IT0 aS) s.heap.size = A at hD ⊢
  have hA : ∀ q : Nat, s.heap.size ≤ q → A q := fun q h => by rw [← hAe]; exact Or.inr h
  have hS : va_S A s.heap s.heap [] := va_S.rf
  have hl := lv_entry ([.ref (aH 0), .long x1, .long x3, .long x5]) (n := 7) (Nat.le_of_ble_eq_true rfl)
  rw [lg_entry_eq]
  generalize (lg_sl ([.ref (aH 0), .long x1, .long x3, .long x5]) ++ List.replicate (7 - (lg_sl ([.ref (aH 0), .long x1, .long x3, .long x5])).length) Slot.unset).toArray = ls at hl ⊢
  have hl : lv_has ls 7 [(0, .ref (aH 0)), (1, .long x1), (3, .long x3), (5, .long x5)] := hl
  generalize hR : f_HaulFlows_way VH0 VY0 LY0 LY1 LY2 x1 x3 x5 = r0
  obtain ⟨H, locs, hHe, hle⟩ : ∃ (H : Heap) (locs : List Loc), s.heap = H ∧ [] = locs := ⟨_, _, rfl, rfl⟩
  have hP : va_P (dC, dI) vwCl (w_H cI cJ cZ aH VH0 aS aP aQ aT ++ w_S cI cJ cZ aS VS0 VS1 VS2 NS0 NS1 NS2 LS0 LS1 LS2 LS3 LS4 LS5 LS6 LS7 LS8 IS0 aY ++ w_Y cI cJ cZ aY VY0 LY0 LY1 LY2 IY0 ++ w_P cI cJ cZ aP VP0 VP1 VP2 NP0 LP0 LP1 LP2 LP3 LP4 IP0 IP1 aS ++ w_P cI cJ cZ aQ VQ0 VQ1 VQ2 NQ0 LQ0 LQ1 LQ2 LQ3 LQ4 IQ0 IQ1 aS ++ w_T cI cJ cZ aT VT0 NT0 NT1 LT0 IT0 aS) H := by rw [← hHe]; exact hP
  have hS : va_S A s.heap H locs := by rw [← hHe, ← hle]; exact hS
  refine hw_start hHe hle ?_
  unfold f_HaulFlows_way at hR
  refine lv_lload_n hx hb d_HaulFlows_way_0 rfl (lv_at hl 1 rfl) ?_
  obtain ⟨y1, hy1, hR⟩ := hw_bind hR
  have hM := c_HaulFlows_isMetre l dC dI cI cJ cZ H.size x1
  rw [hy1] at hM
  refine hw_callSi (As := [.long x1]) (rest := []) (wr := w_H cI cJ cZ aH VH0 aS aP aQ aT ++ w_S cI cJ cZ aS VS0 VS1 VS2 NS0 NS1 NS2 LS0 LS1 LS2 LS3 LS4 LS5 LS6 LS7 LS8 IS0 aY ++ w_Y cI cJ cZ aY VY0 LY0 LY1 LY2 IY0 ++ w_P cI cJ cZ aP VP0 VP1 VP2 NP0 LP0 LP1 LP2 LP3 LP4 IP0 IP1 aS ++ w_P cI cJ cZ aQ VQ0 VQ1 VQ2 NQ0 LQ0 LQ1 LQ2 LQ3 LQ4 IQ0 IQ1 aS ++ w_T cI cJ cZ aT VT0 NT0 NT1 LT0 IT0 aS) ⟨hx, hb, hml, hown, hG⟩ hM (hw_cwS 1 hG m_223 m_224 m_1 m_225 rfl rfl (by decide +kernel) ⟨Nat.le_of_ble_eq_true rfl, Nat.le_of_ble_eq_true rfl⟩) hK hP hD hS hA [] [0, 1, 2, 3, 4, 5, 6, 7, 8, 9, 10, 11, 12, 13, 14, 15, 16, 17, 18, 19, 20, 21, 22, 23, 24, 25, 26, 27, 28, 29, 30, 31, 32, 33, 34, 35, 36, 37, 38, 39, 40, 41, 42] rfl rfl (by decide) (by decide) (by decide) rfl hl.1 rfl (Nat.le_of_ble_eq_true rfl) d_HaulFlows_way_1 ⟨Nat.le_of_ble_eq_true rfl, Nat.le_of_ble_eq_true rfl⟩ (fun H locs hP hD hS => ?_)
  have hP : va_P (dC, dI) vwCl (w_H cI cJ cZ aH VH0 aS aP aQ aT ++ w_S cI cJ cZ aS VS0 VS1 VS2 NS0 NS1 NS2 LS0 LS1 LS2 LS3 LS4 LS5 LS6 LS7 LS8 IS0 aY ++ w_Y cI cJ cZ aY VY0 LY0 LY1 LY2 IY0 ++ w_P cI cJ cZ aP VP0 VP1 VP2 NP0 LP0 LP1 LP2 LP3 LP4 IP0 IP1 aS ++ w_P cI cJ cZ aQ VQ0 VQ1 VQ2 NQ0 LQ0 LQ1 LQ2 LQ3 LQ4 IQ0 IQ1 aS ++ w_T cI cJ cZ aT VT0 NT0 NT1 LT0 IT0 aS) H := hP
  have hD : va_D A (w_H cI cJ cZ aH VH0 aS aP aQ aT ++ w_S cI cJ cZ aS VS0 VS1 VS2 NS0 NS1 NS2 LS0 LS1 LS2 LS3 LS4 LS5 LS6 LS7 LS8 IS0 aY ++ w_Y cI cJ cZ aY VY0 LY0 LY1 LY2 IY0 ++ w_P cI cJ cZ aP VP0 VP1 VP2 NP0 LP0 LP1 LP2 LP3 LP4 IP0 IP1 aS ++ w_P cI cJ cZ aQ VQ0 VQ1 VQ2 NQ0 LQ0 LQ1 LQ2 LQ3 LQ4 IQ0 IQ1 aS ++ w_T cI cJ cZ aT VT0 NT0 NT1 LT0 IT0 aS) := hD
  refine lv_if_eq (tgt := 37) hx hb d_HaulFlows_way_4 (by decide) (fun c4 => ?_) (fun c4 => ?_)
  · replace hR := (if_pos c4).symm.trans hR
    refine lv_iconst (v := (-1)) hx hb d_HaulFlows_way_37 (by decide) ?_
    subst hR
    exact W.iret (v := (-1)) hx hb hr (fun t ht hW => ⟨⟨_, (), rfl, rfl, by rw [ht]; exact hP, va_K.moved hW.alike hK, hD⟩, hS.F ht⟩) hS.2.2 d_HaulFlows_way_38
  · replace hR := (if_neg c4).symm.trans hR
    refine lv_lload_n hx hb d_HaulFlows_way_7 rfl (lv_at hl 2 rfl) ?_
    obtain ⟨y8, hy8, hR⟩ := hw_bind hR
    have hM := c_HaulFlows_isMetre l dC dI cI cJ cZ H.size x3
    rw [hy8] at hM
    refine hw_callSi (As := [.long x3]) (rest := []) (wr := w_H cI cJ cZ aH VH0 aS aP aQ aT ++ w_S cI cJ cZ aS VS0 VS1 VS2 NS0 NS1 NS2 LS0 LS1 LS2 LS3 LS4 LS5 LS6 LS7 LS8 IS0 aY ++ w_Y cI cJ cZ aY VY0 LY0 LY1 LY2 IY0 ++ w_P cI cJ cZ aP VP0 VP1 VP2 NP0 LP0 LP1 LP2 LP3 LP4 IP0 IP1 aS ++ w_P cI cJ cZ aQ VQ0 VQ1 VQ2 NQ0 LQ0 LQ1 LQ2 LQ3 LQ4 IQ0 IQ1 aS ++ w_T cI cJ cZ aT VT0 NT0 NT1 LT0 IT0 aS) ⟨hx, hb, hml, hown, hG⟩ hM (hw_cwS 1 hG m_223 m_224 m_1 m_225 rfl rfl (by decide +kernel) ⟨Nat.le_of_ble_eq_true rfl, Nat.le_of_ble_eq_true rfl⟩) hK hP hD hS hA [] [0, 1, 2, 3, 4, 5, 6, 7, 8, 9, 10, 11, 12, 13, 14, 15, 16, 17, 18, 19, 20, 21, 22, 23, 24, 25, 26, 27, 28, 29, 30, 31, 32, 33, 34, 35, 36, 37, 38, 39, 40, 41, 42] rfl rfl (by decide) (by decide) (by decide) rfl hl.1 rfl (Nat.le_of_ble_eq_true rfl) d_HaulFlows_way_8 ⟨Nat.le_of_ble_eq_true rfl, Nat.le_of_ble_eq_true rfl⟩ (fun H locs hP hD hS => ?_)
    have hP : va_P (dC, dI) vwCl (w_H cI cJ cZ aH VH0 aS aP aQ aT ++ w_S cI cJ cZ aS VS0 VS1 VS2 NS0 NS1 NS2 LS0 LS1 LS2 LS3 LS4 LS5 LS6 LS7 LS8 IS0 aY ++ w_Y cI cJ cZ aY VY0 LY0 LY1 LY2 IY0 ++ w_P cI cJ cZ aP VP0 VP1 VP2 NP0 LP0 LP1 LP2 LP3 LP4 IP0 IP1 aS ++ w_P cI cJ cZ aQ VQ0 VQ1 VQ2 NQ0 LQ0 LQ1 LQ2 LQ3 LQ4 IQ0 IQ1 aS ++ w_T cI cJ cZ aT VT0 NT0 NT1 LT0 IT0 aS) H := hP
    have hD : va_D A (w_H cI cJ cZ aH VH0 aS aP aQ aT ++ w_S cI cJ cZ aS VS0 VS1 VS2 NS0 NS1 NS2 LS0 LS1 LS2 LS3 LS4 LS5 LS6 LS7 LS8 IS0 aY ++ w_Y cI cJ cZ aY VY0 LY0 LY1 LY2 IY0 ++ w_P cI cJ cZ aP VP0 VP1 VP2 NP0 LP0 LP1 LP2 LP3 LP4 IP0 IP1 aS ++ w_P cI cJ cZ aQ VQ0 VQ1 VQ2 NQ0 LQ0 LQ1 LQ2 LQ3 LQ4 IQ0 IQ1 aS ++ w_T cI cJ cZ aT VT0 NT0 NT1 LT0 IT0 aS) := hD
    refine lv_if_eq (tgt := 37) hx hb d_HaulFlows_way_11 (by decide) (fun c11 => ?_) (fun c11 => ?_)
    · replace hR := (if_pos c11).symm.trans hR
      refine lv_iconst (v := (-1)) hx hb d_HaulFlows_way_37 (by decide) ?_
      subst hR
      exact W.iret (v := (-1)) hx hb hr (fun t ht hW => ⟨⟨_, (), rfl, rfl, by rw [ht]; exact hP, va_K.moved hW.alike hK, hD⟩, hS.F ht⟩) hS.2.2 d_HaulFlows_way_38
    · replace hR := (if_neg c11).symm.trans hR
      refine lv_lload hx hb d_HaulFlows_way_14 (lv_at hl 3 rfl) ?_
      obtain ⟨y16, hy16, hR⟩ := hw_bind hR
      have hM := c_HaulFlows_isCents l dC dI cI cJ cZ H.size x5
      rw [hy16] at hM
      refine hw_callSi (As := [.long x5]) (rest := []) (wr := w_H cI cJ cZ aH VH0 aS aP aQ aT ++ w_S cI cJ cZ aS VS0 VS1 VS2 NS0 NS1 NS2 LS0 LS1 LS2 LS3 LS4 LS5 LS6 LS7 LS8 IS0 aY ++ w_Y cI cJ cZ aY VY0 LY0 LY1 LY2 IY0 ++ w_P cI cJ cZ aP VP0 VP1 VP2 NP0 LP0 LP1 LP2 LP3 LP4 IP0 IP1 aS ++ w_P cI cJ cZ aQ VQ0 VQ1 VQ2 NQ0 LQ0 LQ1 LQ2 LQ3 LQ4 IQ0 IQ1 aS ++ w_T cI cJ cZ aT VT0 NT0 NT1 LT0 IT0 aS) ⟨hx, hb, hml, hown, hG⟩ hM (hw_cwS 1 hG m_259 m_260 m_1 m_261 rfl rfl (by decide +kernel) ⟨Nat.le_of_ble_eq_true rfl, Nat.le_of_ble_eq_true rfl⟩) hK hP hD hS hA [] [0, 1, 2, 3, 4, 5, 6, 7, 8, 9, 10, 11, 12, 13, 14, 15, 16, 17, 18, 19, 20, 21, 22, 23, 24, 25, 26, 27, 28, 29, 30, 31, 32, 33, 34, 35, 36, 37, 38, 39, 40, 41, 42] rfl rfl (by decide) (by decide) (by decide) rfl hl.1 rfl (Nat.le_of_ble_eq_true rfl) d_HaulFlows_way_16 ⟨Nat.le_of_ble_eq_true rfl, Nat.le_of_ble_eq_true rfl⟩ (fun H locs hP hD hS => ?_)
      have hP : va_P (dC, dI) vwCl (w_H cI cJ cZ aH VH0 aS aP aQ aT ++ w_S cI cJ cZ aS VS0 VS1 VS2 NS0 NS1 NS2 LS0 LS1 LS2 LS3 LS4 LS5 LS6 LS7 LS8 IS0 aY ++ w_Y cI cJ cZ aY VY0 LY0 LY1 LY2 IY0 ++ w_P cI cJ cZ aP VP0 VP1 VP2 NP0 LP0 LP1 LP2 LP3 LP4 IP0 IP1 aS ++ w_P cI cJ cZ aQ VQ0 VQ1 VQ2 NQ0 LQ0 LQ1 LQ2 LQ3 LQ4 IQ0 IQ1 aS ++ w_T cI cJ cZ aT VT0 NT0 NT1 LT0 IT0 aS) H := hP
      have hD : va_D A (w_H cI cJ cZ aH VH0 aS aP aQ aT ++ w_S cI cJ cZ aS VS0 VS1 VS2 NS0 NS1 NS2 LS0 LS1 LS2 LS3 LS4 LS5 LS6 LS7 LS8 IS0 aY ++ w_Y cI cJ cZ aY VY0 LY0 LY1 LY2 IY0 ++ w_P cI cJ cZ aP VP0 VP1 VP2 NP0 LP0 LP1 LP2 LP3 LP4 IP0 IP1 aS ++ w_P cI cJ cZ aQ VQ0 VQ1 VQ2 NQ0 LQ0 LQ1 LQ2 LQ3 LQ4 IQ0 IQ1 aS ++ w_T cI cJ cZ aT VT0 NT0 NT1 LT0 IT0 aS) := hD
      refine lv_if_eq (tgt := 37) hx hb d_HaulFlows_way_19 (by decide) (fun c19 => ?_) (fun c19 => ?_)
      · replace hR := (if_pos c19).symm.trans hR
        refine lv_iconst (v := (-1)) hx hb d_HaulFlows_way_37 (by decide) ?_
        subst hR
        exact W.iret (v := (-1)) hx hb hr (fun t ht hW => ⟨⟨_, (), rfl, rfl, by rw [ht]; exact hP, va_K.moved hW.alike hK, hD⟩, hS.F ht⟩) hS.2.2 d_HaulFlows_way_38
      · replace hR := (if_neg c19).symm.trans hR
        refine lv_aload_n hx hb d_HaulFlows_way_22 rfl (lv_at hl 0 rfl) ?_
        refine va_get (D := (dC, dI)) (ci := 4) (v := .ref (aS 0)) (C := R_HaulFlows) (T := T_HaulFlows) (N := 5) hx hb hG in_HaulFlows hown hK hP 0 rfl rfl 0 (by decide) (hG _ m_196) (fun _ h9 => h9) rfl d_HaulFlows_way_23 ?_
        refine va_get (D := (dC, dI)) (ci := 2) (v := .ref (aY 0)) (C := R_Site) (T := T_Site) (N := 17) hx hb hG in_Site hown hK hP 1 rfl rfl 3 (by decide) (hG _ m_65) (fun _ h9 => h9) rfl d_HaulFlows_way_26 ?_
        refine va_get (D := (dC, dI)) (ci := 3) (v := .int (nI VY0)) (C := R_Ways) (T := T_Ways) (N := 5) hx hb hG in_Ways hown hK hP 15 rfl rfl 0 (by decide) (hG _ m_34) (fun _ h9 => h9) rfl d_HaulFlows_way_29 ?_
        refine lv_bipush (v := nI 6) hx hb d_HaulFlows_way_32 (by decide) ?_
        refine hw_icmp_lt (tgt := 39) hx hb d_HaulFlows_way_34 (by decide) (by omega) (by omega) (fun c34 => ?_) (fun c34 => ?_)
        · replace hR := (if_pos c34).symm.trans hR
          refine lv_aload_n hx hb d_HaulFlows_way_39 rfl (lv_at hl 0 rfl) ?_
          refine lv_iconst (v := nI 0) hx hb d_HaulFlows_way_40 (by decide) ?_
          refine va_put (D := (dC, dI)) (ci := 4) (v := .int (nI 0)) (ty := .int) (C := R_HaulFlows) (T := T_HaulFlows) (N := 5) hx hb hG in_HaulFlows ty_HaulFlows tok_HaulFlows nok_HaulFlows hown hK hP hD hS 0 rfl rfl 4 (by decide) (hG _ m_200) (fun _ h9 => h9) rfl (by decide +kernel) rfl rfl (Nat.le_of_ble_eq_true rfl) d_HaulFlows_way_41 (fun H locs hP hD hS => ?_)
          have hP : va_P (dC, dI) vwCl (w_H cI cJ cZ aH 0 aS aP aQ aT ++ w_S cI cJ cZ aS VS0 VS1 VS2 NS0 NS1 NS2 LS0 LS1 LS2 LS3 LS4 LS5 LS6 LS7 LS8 IS0 aY ++ w_Y cI cJ cZ aY VY0 LY0 LY1 LY2 IY0 ++ w_P cI cJ cZ aP VP0 VP1 VP2 NP0 LP0 LP1 LP2 LP3 LP4 IP0 IP1 aS ++ w_P cI cJ cZ aQ VQ0 VQ1 VQ2 NQ0 LQ0 LQ1 LQ2 LQ3 LQ4 IQ0 IQ1 aS ++ w_T cI cJ cZ aT VT0 NT0 NT1 LT0 IT0 aS) H := hP
          have hD : va_D A (w_H cI cJ cZ aH 0 aS aP aQ aT ++ w_S cI cJ cZ aS VS0 VS1 VS2 NS0 NS1 NS2 LS0 LS1 LS2 LS3 LS4 LS5 LS6 LS7 LS8 IS0 aY ++ w_Y cI cJ cZ aY VY0 LY0 LY1 LY2 IY0 ++ w_P cI cJ cZ aP VP0 VP1 VP2 NP0 LP0 LP1 LP2 LP3 LP4 IP0 IP1 aS ++ w_P cI cJ cZ aQ VQ0 VQ1 VQ2 NQ0 LQ0 LQ1 LQ2 LQ3 LQ4 IQ0 IQ1 aS ++ w_T cI cJ cZ aT VT0 NT0 NT1 LT0 IT0 aS) := hD
          refine lv_aload_n hx hb d_HaulFlows_way_44 rfl (lv_at hl 0 rfl) ?_
          refine va_get (D := (dC, dI)) (ci := 4) (v := .ref (aS 0)) (C := R_HaulFlows) (T := T_HaulFlows) (N := 5) hx hb hG in_HaulFlows hown hK hP 0 rfl rfl 0 (by decide) (hG _ m_196) (fun _ h9 => h9) rfl d_HaulFlows_way_45 ?_
          refine va_get (D := (dC, dI)) (ci := 2) (v := .ref (aY 0)) (C := R_Site) (T := T_Site) (N := 17) hx hb hG in_Site hown hK hP 1 rfl rfl 3 (by decide) (hG _ m_65) (fun _ h9 => h9) rfl d_HaulFlows_way_48 ?_
          refine lv_lload_n hx hb d_HaulFlows_way_51 rfl (lv_at hl 1 rfl) ?_
          refine lv_lload_n hx hb d_HaulFlows_way_52 rfl (lv_at hl 2 rfl) ?_
          refine lv_lload hx hb d_HaulFlows_way_53 (lv_at hl 3 rfl) ?_
          obtain ⟨y55, hy55, hR⟩ := hw_bind hR
          have hM := c_Ways_add l dC dI cI cJ cZ H.size aY VY0 LY0 LY1 LY2 IY0 x1 x3 x5 (by first | assumption | omega)
          rw [hy55] at hM
          refine hw_callVi (As := [.long x1, .long x3, .long x5]) (rest := []) (wr := w_H cI cJ cZ aH 0 aS aP aQ aT ++ w_S cI cJ cZ aS VS0 VS1 VS2 NS0 NS1 NS2 LS0 LS1 LS2 LS3 LS4 LS5 LS6 LS7 LS8 IS0 aY ++ w_P cI cJ cZ aP VP0 VP1 VP2 NP0 LP0 LP1 LP2 LP3 LP4 IP0 IP1 aS ++ w_P cI cJ cZ aQ VQ0 VQ1 VQ2 NQ0 LQ0 LQ1 LQ2 LQ3 LQ4 IQ0 IQ1 aS ++ w_T cI cJ cZ aT VT0 NT0 NT1 LT0 IT0 aS) ⟨hx, hb, hml, hown, hG⟩ hM (hw_cwV 3 hG m_262 m_263 m_264 m_3 m_265 rfl rfl (by decide +kernel) ⟨Nat.le_of_ble_eq_true rfl, Nat.le_of_ble_eq_true rfl⟩) hK hP hD hS hA [15, 16, 17, 18, 19] [0, 1, 2, 3, 4, 5, 6, 7, 8, 9, 10, 11, 12, 13, 14, 20, 21, 22, 23, 24, 25, 26, 27, 28, 29, 30, 31, 32, 33, 34, 35, 36, 37, 38, 39, 40, 41, 42] rfl rfl (by decide) (by decide) (by decide) (hw_recv hK hP 15 rfl rfl) rfl hl.1 rfl (Nat.le_of_ble_eq_true rfl) d_HaulFlows_way_55 ⟨Nat.le_of_ble_eq_true rfl, Nat.le_of_ble_eq_true rfl⟩ (fun H locs hP hD hS => ?_)
          have hP : va_P (dC, dI) vwCl (w_H cI cJ cZ aH 0 aS aP aQ aT ++ w_S cI cJ cZ aS VS0 VS1 VS2 NS0 NS1 NS2 LS0 LS1 LS2 LS3 LS4 LS5 LS6 LS7 LS8 IS0 aY ++ w_Y cI cJ cZ aY y55.2.1 y55.2.2.1 y55.2.2.2.1 y55.2.2.2.2 IY0 ++ w_P cI cJ cZ aP VP0 VP1 VP2 NP0 LP0 LP1 LP2 LP3 LP4 IP0 IP1 aS ++ w_P cI cJ cZ aQ VQ0 VQ1 VQ2 NQ0 LQ0 LQ1 LQ2 LQ3 LQ4 IQ0 IQ1 aS ++ w_T cI cJ cZ aT VT0 NT0 NT1 LT0 IT0 aS) H := hP.sub [0, 1, 2, 3, 4, 5, 6, 7, 8, 9, 10, 11, 12, 13, 14, 38, 39, 40, 41, 42, 15, 16, 17, 18, 19, 20, 21, 22, 23, 24, 25, 26, 27, 28, 29, 30, 31, 32, 33, 34, 35, 36, 37] rfl
          have hD : va_D A (w_H cI cJ cZ aH 0 aS aP aQ aT ++ w_S cI cJ cZ aS VS0 VS1 VS2 NS0 NS1 NS2 LS0 LS1 LS2 LS3 LS4 LS5 LS6 LS7 LS8 IS0 aY ++ w_Y cI cJ cZ aY y55.2.1 y55.2.2.1 y55.2.2.2.1 y55.2.2.2.2 IY0 ++ w_P cI cJ cZ aP VP0 VP1 VP2 NP0 LP0 LP1 LP2 LP3 LP4 IP0 IP1 aS ++ w_P cI cJ cZ aQ VQ0 VQ1 VQ2 NQ0 LQ0 LQ1 LQ2 LQ3 LQ4 IQ0 IQ1 aS ++ w_T cI cJ cZ aT VT0 NT0 NT1 LT0 IT0 aS) := hD.sub [0, 1, 2, 3, 4, 5, 6, 7, 8, 9, 10, 11, 12, 13, 14, 38, 39, 40, 41, 42, 15, 16, 17, 18, 19, 20, 21, 22, 23, 24, 25, 26, 27, 28, 29, 30, 31, 32, 33, 34, 35, 36, 37] (by decide) rfl
          subst hR
          exact W.iret (v := nI y55.1) hx hb hr (fun t ht hW => ⟨⟨_, (), rfl, rfl, by rw [ht]; exact hP, va_K.moved hW.alike hK, hD⟩, hS.F ht⟩) hS.2.2 d_HaulFlows_way_58
        · replace hR := (if_neg c34).symm.trans hR
          refine lv_iconst (v := (-1)) hx hb d_HaulFlows_way_37 (by decide) ?_
          subst hR
          exact W.iret (v := (-1)) hx hb hr (fun t ht hW => ⟨⟨_, (), rfl, rfl, by rw [ht]; exact hP, va_K.moved hW.alike hK, hD⟩, hS.F ht⟩) hS.2.2 d_HaulFlows_way_38
def f_HaulFlows_bar (VH0 : Nat) (VY0 : Nat) (IY0 : Nat → Int32) (x1 : Int32) (x2 : Int32) (x3 : Int32) : Int32 × (Nat) × (Nat → Int32) :=
  hh_bind (f_HaulFlows_isBelow x1 (nI VY0)) (fun y11 => if y11 = 0 then (nI 0, VH0, IY0) else (hh_bind (f_HaulFlows_isBelow x2 (nI 12)) (fun y20 => if y20 = 0 then (nI 0, VH0, IY0) else (hh_bind (f_HaulFlows_isBelow x3 (nI 12)) (fun y29 => if y29 = 0 then (nI 0, VH0, IY0) else (if x2 ≤ x3 then (hh_bind (f_Ways_shut IY0 x1.toNatClampNeg x2.toNatClampNeg x3.toNatClampNeg) (fun y57 => (nI 1, 0, y57))) else (nI 0, VH0, IY0)))))))
set_option maxHeartbeats 4000000 in
set_option maxRecDepth 100000 in
theorem c_HaulFlows_bar (l : Launch) (dC : Nat → ClassId) (dI : Nat → Nat → Nat) (cI cJ cZ : ClassId) (sz : Nat) (aH : Nat → Nat) (VH0 : Nat) (aS : Nat → Nat) (VS0 : Nat) (VS1 : Nat) (VS2 : Nat) (NS0 : Nat → Nat) (NS1 : Nat → Nat) (NS2 : Nat → Nat) (LS0 : Nat → Int64) (LS1 : Nat → Int64) (LS2 : Nat → Int64) (LS3 : Nat → Int64) (LS4 : Nat → Int64) (LS5 : Nat → Int64) (LS6 : Nat → Int64) (LS7 : Nat → Int64) (LS8 : Nat → Int64) (IS0 : Nat → Int32) (aY : Nat → Nat) (VY0 : Nat) (LY0 : Nat → Int64) (LY1 : Nat → Int64) (LY2 : Nat → Int64) (IY0 : Nat → Int32) (aP : Nat → Nat) (VP0 : Nat) (VP1 : Nat) (VP2 : Nat) (NP0 : Nat → Nat) (LP0 : Nat → Int64) (LP1 : Nat → Int64) (LP2 : Nat → Int64) (LP3 : Nat → Int64) (LP4 : Nat → Int64) (IP0 : Nat → Int32) (IP1 : Nat → Int32) (aQ : Nat → Nat) (VQ0 : Nat) (VQ1 : Nat) (VQ2 : Nat) (NQ0 : Nat → Nat) (LQ0 : Nat → Int64) (LQ1 : Nat → Int64) (LQ2 : Nat → Int64) (LQ3 : Nat → Int64) (LQ4 : Nat → Int64) (IQ0 : Nat → Int32) (IQ1 : Nat → Int32) (aT : Nat → Nat) (VT0 : Nat) (NT0 : Nat → Nat) (NT1 : Nat → Nat) (LT0 : Nat → Int64) (IT0 : Nat → Int32) (x1 : Int32) (x2 : Int32) (x3 : Int32) (hc8 : VS0 ≤ 8) (hp4 : VS1 ≤ 4) (hf8 : VS2 ≤ 8) (hy6 : VY0 ≤ 6) (hk4 : ∀ i, NS0 i < 4) (hcw : ∀ i, NS1 i < 12) (hfw : ∀ i, NS2 i < 12) (hq : ∀ i, NP0 i < 21) (htq : ∀ i, NT1 i < 34) (hst : VH0 ≤ 2) (hpl : VH0 = 1 → VP0 = VS0 + VS1 ∧ VP1 = VS2) (hsf : VT0 ≤ 8) : hh_Ci l y_HaulFlows_bar u_HaulFlows_bar ({ frames := 1, cells := 0, slots := 0, locals := 24 }) (dC, dI) vwCl [(cI, .int), (cJ, .long), (cZ, .boolean)] (w_H cI cJ cZ aH VH0 aS aP aQ aT ++ w_S cI cJ cZ aS VS0 VS1 VS2 NS0 NS1 NS2 LS0 LS1 LS2 LS3 LS4 LS5 LS6 LS7 LS8 IS0 aY ++ w_Y cI cJ cZ aY VY0 LY0 LY1 LY2 IY0 ++ w_P cI cJ cZ aP VP0 VP1 VP2 NP0 LP0 LP1 LP2 LP3 LP4 IP0 IP1 aS ++ w_P cI cJ cZ aQ VQ0 VQ1 VQ2 NQ0 LQ0 LQ1 LQ2 LQ3 LQ4 IQ0 IQ1 aS ++ w_T cI cJ cZ aT VT0 NT0 NT1 LT0 IT0 aS) sz [.ref (aH 0), .int x1, .int x2, .int x3] ((f_HaulFlows_bar VH0 VY0 IY0 x1 x2 x3).1) (w_H cI cJ cZ aH ((f_HaulFlows_bar VH0 VY0 IY0 x1 x2 x3).2.1) aS aP aQ aT ++ w_S cI cJ cZ aS VS0 VS1 VS2 NS0 NS1 NS2 LS0 LS1 LS2 LS3 LS4 LS5 LS6 LS7 LS8 IS0 aY ++ w_Y cI cJ cZ aY VY0 LY0 LY1 LY2 ((f_HaulFlows_bar VH0 VY0 IY0 x1 x2 x3).2.2) ++ w_P cI cJ cZ aP VP0 VP1 VP2 NP0 LP0 LP1 LP2 LP3 LP4 IP0 IP1 aS ++ w_P cI cJ cZ aQ VQ0 VQ1 VQ2 NQ0 LQ0 LQ1 LQ2 LQ3 LQ4 IQ0 IQ1 aS ++ w_T cI cJ cZ aT VT0 NT0 NT1 LT0 IT0 aS) 0 0 := by
  unfold hh_Ci
  refine Met.ofW (cc := b_HaulFlows_bar) (maxL := 4) (ret := (some .boolean)) (by decide) rfl ?_
  intro p e s m args below meth c s₁ B hml hv
  obtain ⟨rfl, hsz, hP, hK, hD0⟩ := hv
  have hx := B.exec
  have hb := B.bytes
  have hr := B.returns
  have hts := atoms_spec (ws := u_HaulFlows_bar) B.pre
  have hG : ∀ w ∈ wG, w.before ([.ref (aH 0), .int x1, .int x2, .int x3]).toArray s = true := fun w h => hts w (List.mem_cons_of_mem _ h)
  have hown : s.vm.findClass R_HaulFlows = some m.cls := findClass_of_methodNamed B.named
  have hlocks := B.notSynchronized
  subst hsz
  have hD := hD0.self (sz := s.heap.size)
  generalize hAe : va_A (w_H cI cJ cZ aH VH0 aS aP aQ aT ++ w_S cI cJ cZ aS VS0 VS1 VS2 NS0 NS1 NS2 LS0 LS1 LS2 LS3 LS4 LS5 LS6 LS7 LS8 IS0 aY ++ w_Y cI cJ cZ aY VY0 LY0 LY1 LY2 IY0 ++ w_P cI cJ cZ aP VP0 VP1 VP2 NP0 LP0 LP1 LP2 LP3 LP4 IP0 IP1 aS ++ w_P cI cJ cZ aQ VQ0 VQ1 VQ2 NQ0 LQ0 LQ1 LQ2 LQ3 LQ4 IQ0 IQ1 aS ++ w_T cI cJ cZ aT VT0 NT0 NT1 LT0 IT0 aS) s.heap.size = A at hD ⊢
  have hA : ∀ q : Nat, s.heap.size ≤ q → A q := fun q h => by rw [← hAe]; exact Or.inr h
  have hS : va_S A s.heap s.heap [] := va_S.rf
  have hl := lv_entry ([.ref (aH 0), .int x1, .int x2, .int x3]) (n := 4) (Nat.le_of_ble_eq_true rfl)
  rw [lg_entry_eq]
  generalize (lg_sl ([.ref (aH 0), .int x1, .int x2, .int x3]) ++ List.replicate (4 - (lg_sl ([.ref (aH 0), .int x1, .int x2, .int x3])).length) Slot.unset).toArray = ls at hl ⊢
  have hl : lv_has ls 4 [(0, .ref (aH 0)), (1, .int x1), (2, .int x2), (3, .int x3)] := hl
  generalize hR : f_HaulFlows_bar VH0 VY0 IY0 x1 x2 x3 = r0
  obtain ⟨H, locs, hHe, hle⟩ : ∃ (H : Heap) (locs : List Loc), s.heap = H ∧ [] = locs := ⟨_, _, rfl, rfl⟩
  have hP : va_P (dC, dI) vwCl (w_H cI cJ cZ aH VH0 aS aP aQ aT ++ w_S cI cJ cZ aS VS0 VS1 VS2 NS0 NS1 NS2 LS0 LS1 LS2 LS3 LS4 LS5 LS6 LS7 LS8 IS0 aY ++ w_Y cI cJ cZ aY VY0 LY0 LY1 LY2 IY0 ++ w_P cI cJ cZ aP VP0 VP1 VP2 NP0 LP0 LP1 LP2 LP3 LP4 IP0 IP1 aS ++ w_P cI cJ cZ aQ VQ0 VQ1 VQ2 NQ0 LQ0 LQ1 LQ2 LQ3 LQ4 IQ0 IQ1 aS ++ w_T cI cJ cZ aT VT0 NT0 NT1 LT0 IT0 aS) H := by rw [← hHe]; exact hP
  have hS : va_S A s.heap H locs := by rw [← hHe, ← hle]; exact hS
  refine hw_start hHe hle ?_
  unfold f_HaulFlows_bar at hR
  refine lv_iload_n hx hb d_HaulFlows_bar_0 rfl (lv_at hl 1 rfl) ?_
  refine lv_aload_n hx hb d_HaulFlows_bar_1 rfl (lv_at hl 0 rfl) ?_
  refine va_get (D := (dC, dI)) (ci := 4) (v := .ref (aS 0)) (C := R_HaulFlows) (T := T_HaulFlows) (N := 5) hx hb hG in_HaulFlows hown hK hP 0 rfl rfl 0 (by decide) (hG _ m_196) (fun _ h9 => h9) rfl d_HaulFlows_bar_2 ?_
  refine va_get (D := (dC, dI)) (ci := 2) (v := .ref (aY 0)) (C := R_Site) (T := T_Site) (N := 17) hx hb hG in_Site hown hK hP 1 rfl rfl 3 (by decide) (hG _ m_65) (fun _ h9 => h9) rfl d_HaulFlows_bar_5 ?_
  refine va_get (D := (dC, dI)) (ci := 3) (v := .int (nI VY0)) (C := R_Ways) (T := T_Ways) (N := 5) hx hb hG in_Ways hown hK hP 15 rfl rfl 0 (by decide) (hG _ m_34) (fun _ h9 => h9) rfl d_HaulFlows_bar_8 ?_
  obtain ⟨y11, hy11, hR⟩ := hw_bind hR
  have hM := c_HaulFlows_isBelow l dC dI cI cJ cZ H.size x1 (nI VY0)
  rw [hy11] at hM
  refine hw_callSi (As := [.int x1, .int (nI VY0)]) (rest := []) (wr := w_H cI cJ cZ aH VH0 aS aP aQ aT ++ w_S cI cJ cZ aS VS0 VS1 VS2 NS0 NS1 NS2 LS0 LS1 LS2 LS3 LS4 LS5 LS6 LS7 LS8 IS0 aY ++ w_Y cI cJ cZ aY VY0 LY0 LY1 LY2 IY0 ++ w_P cI cJ cZ aP VP0 VP1 VP2 NP0 LP0 LP1 LP2 LP3 LP4 IP0 IP1 aS ++ w_P cI cJ cZ aQ VQ0 VQ1 VQ2 NQ0 LQ0 LQ1 LQ2 LQ3 LQ4 IQ0 IQ1 aS ++ w_T cI cJ cZ aT VT0 NT0 NT1 LT0 IT0 aS) ⟨hx, hb, hml, hown, hG⟩ hM (hw_cwS 2 hG m_220 m_221 m_1 m_222 rfl rfl (by decide +kernel) ⟨Nat.le_of_ble_eq_true rfl, Nat.le_of_ble_eq_true rfl⟩) hK hP hD hS hA [] [0, 1, 2, 3, 4, 5, 6, 7, 8, 9, 10, 11, 12, 13, 14, 15, 16, 17, 18, 19, 20, 21, 22, 23, 24, 25, 26, 27, 28, 29, 30, 31, 32, 33, 34, 35, 36, 37, 38, 39, 40, 41, 42] rfl rfl (by decide) (by decide) (by decide) rfl hl.1 rfl (Nat.le_of_ble_eq_true rfl) d_HaulFlows_bar_11 ⟨Nat.le_of_ble_eq_true rfl, Nat.le_of_ble_eq_true rfl⟩ (fun H locs hP hD hS => ?_)
  have hP : va_P (dC, dI) vwCl (w_H cI cJ cZ aH VH0 aS aP aQ aT ++ w_S cI cJ cZ aS VS0 VS1 VS2 NS0 NS1 NS2 LS0 LS1 LS2 LS3 LS4 LS5 LS6 LS7 LS8 IS0 aY ++ w_Y cI cJ cZ aY VY0 LY0 LY1 LY2 IY0 ++ w_P cI cJ cZ aP VP0 VP1 VP2 NP0 LP0 LP1 LP2 LP3 LP4 IP0 IP1 aS ++ w_P cI cJ cZ aQ VQ0 VQ1 VQ2 NQ0 LQ0 LQ1 LQ2 LQ3 LQ4 IQ0 IQ1 aS ++ w_T cI cJ cZ aT VT0 NT0 NT1 LT0 IT0 aS) H := hP
  have hD : va_D A (w_H cI cJ cZ aH VH0 aS aP aQ aT ++ w_S cI cJ cZ aS VS0 VS1 VS2 NS0 NS1 NS2 LS0 LS1 LS2 LS3 LS4 LS5 LS6 LS7 LS8 IS0 aY ++ w_Y cI cJ cZ aY VY0 LY0 LY1 LY2 IY0 ++ w_P cI cJ cZ aP VP0 VP1 VP2 NP0 LP0 LP1 LP2 LP3 LP4 IP0 IP1 aS ++ w_P cI cJ cZ aQ VQ0 VQ1 VQ2 NQ0 LQ0 LQ1 LQ2 LQ3 LQ4 IQ0 IQ1 aS ++ w_T cI cJ cZ aT VT0 NT0 NT1 LT0 IT0 aS) := hD
  have hbl11 := hp_below (x := x1) (n := VY0) (by omega)
  rw [hy11] at hbl11
  refine lv_if_eq (tgt := 40) hx hb d_HaulFlows_bar_14 (by decide) (fun c14 => ?_) (fun c14 => ?_)
  · replace hR := (if_pos c14).symm.trans hR
    refine lv_iconst (v := nI 0) hx hb d_HaulFlows_bar_40 (by decide) ?_
    subst hR
    exact W.zret (v := nI 0) hx hb hr (by decide) (fun t ht hW => ⟨⟨_, (), rfl, rfl, by rw [ht]; exact hP, va_K.moved hW.alike hK, hD⟩, hS.F ht⟩) hS.2.2 d_HaulFlows_bar_41
  · replace hR := (if_neg c14).symm.trans hR
    refine lv_iload_n hx hb d_HaulFlows_bar_17 rfl (lv_at hl 2 rfl) ?_
    refine lv_bipush (v := nI 12) hx hb d_HaulFlows_bar_18 (by decide) ?_
    obtain ⟨y20, hy20, hR⟩ := hw_bind hR
    have hM := c_HaulFlows_isBelow l dC dI cI cJ cZ H.size x2 (nI 12)
    rw [hy20] at hM
    refine hw_callSi (As := [.int x2, .int (nI 12)]) (rest := []) (wr := w_H cI cJ cZ aH VH0 aS aP aQ aT ++ w_S cI cJ cZ aS VS0 VS1 VS2 NS0 NS1 NS2 LS0 LS1 LS2 LS3 LS4 LS5 LS6 LS7 LS8 IS0 aY ++ w_Y cI cJ cZ aY VY0 LY0 LY1 LY2 IY0 ++ w_P cI cJ cZ aP VP0 VP1 VP2 NP0 LP0 LP1 LP2 LP3 LP4 IP0 IP1 aS ++ w_P cI cJ cZ aQ VQ0 VQ1 VQ2 NQ0 LQ0 LQ1 LQ2 LQ3 LQ4 IQ0 IQ1 aS ++ w_T cI cJ cZ aT VT0 NT0 NT1 LT0 IT0 aS) ⟨hx, hb, hml, hown, hG⟩ hM (hw_cwS 2 hG m_220 m_221 m_1 m_222 rfl rfl (by decide +kernel) ⟨Nat.le_of_ble_eq_true rfl, Nat.le_of_ble_eq_true rfl⟩) hK hP hD hS hA [] [0, 1, 2, 3, 4, 5, 6, 7, 8, 9, 10, 11, 12, 13, 14, 15, 16, 17, 18, 19, 20, 21, 22, 23, 24, 25, 26, 27, 28, 29, 30, 31, 32, 33, 34, 35, 36, 37, 38, 39, 40, 41, 42] rfl rfl (by decide) (by decide) (by decide) rfl hl.1 rfl (Nat.le_of_ble_eq_true rfl) d_HaulFlows_bar_20 ⟨Nat.le_of_ble_eq_true rfl, Nat.le_of_ble_eq_true rfl⟩ (fun H locs hP hD hS => ?_)
    have hP : va_P (dC, dI) vwCl (w_H cI cJ cZ aH VH0 aS aP aQ aT ++ w_S cI cJ cZ aS VS0 VS1 VS2 NS0 NS1 NS2 LS0 LS1 LS2 LS3 LS4 LS5 LS6 LS7 LS8 IS0 aY ++ w_Y cI cJ cZ aY VY0 LY0 LY1 LY2 IY0 ++ w_P cI cJ cZ aP VP0 VP1 VP2 NP0 LP0 LP1 LP2 LP3 LP4 IP0 IP1 aS ++ w_P cI cJ cZ aQ VQ0 VQ1 VQ2 NQ0 LQ0 LQ1 LQ2 LQ3 LQ4 IQ0 IQ1 aS ++ w_T cI cJ cZ aT VT0 NT0 NT1 LT0 IT0 aS) H := hP
    have hD : va_D A (w_H cI cJ cZ aH VH0 aS aP aQ aT ++ w_S cI cJ cZ aS VS0 VS1 VS2 NS0 NS1 NS2 LS0 LS1 LS2 LS3 LS4 LS5 LS6 LS7 LS8 IS0 aY ++ w_Y cI cJ cZ aY VY0 LY0 LY1 LY2 IY0 ++ w_P cI cJ cZ aP VP0 VP1 VP2 NP0 LP0 LP1 LP2 LP3 LP4 IP0 IP1 aS ++ w_P cI cJ cZ aQ VQ0 VQ1 VQ2 NQ0 LQ0 LQ1 LQ2 LQ3 LQ4 IQ0 IQ1 aS ++ w_T cI cJ cZ aT VT0 NT0 NT1 LT0 IT0 aS) := hD
    have hbl20 := hp_below (x := x2) (n := 12) (by omega)
    rw [hy20] at hbl20
    refine lv_if_eq (tgt := 40) hx hb d_HaulFlows_bar_23 (by decide) (fun c23 => ?_) (fun c23 => ?_)
    · replace hR := (if_pos c23).symm.trans hR
      refine lv_iconst (v := nI 0) hx hb d_HaulFlows_bar_40 (by decide) ?_
      subst hR
      exact W.zret (v := nI 0) hx hb hr (by decide) (fun t ht hW => ⟨⟨_, (), rfl, rfl, by rw [ht]; exact hP, va_K.moved hW.alike hK, hD⟩, hS.F ht⟩) hS.2.2 d_HaulFlows_bar_41
    · replace hR := (if_neg c23).symm.trans hR
      refine lv_iload_n hx hb d_HaulFlows_bar_26 rfl (lv_at hl 3 rfl) ?_
      refine lv_bipush (v := nI 12) hx hb d_HaulFlows_bar_27 (by decide) ?_
      obtain ⟨y29, hy29, hR⟩ := hw_bind hR
      have hM := c_HaulFlows_isBelow l dC dI cI cJ cZ H.size x3 (nI 12)
      rw [hy29] at hM
      refine hw_callSi (As := [.int x3, .int (nI 12)]) (rest := []) (wr := w_H cI cJ cZ aH VH0 aS aP aQ aT ++ w_S cI cJ cZ aS VS0 VS1 VS2 NS0 NS1 NS2 LS0 LS1 LS2 LS3 LS4 LS5 LS6 LS7 LS8 IS0 aY ++ w_Y cI cJ cZ aY VY0 LY0 LY1 LY2 IY0 ++ w_P cI cJ cZ aP VP0 VP1 VP2 NP0 LP0 LP1 LP2 LP3 LP4 IP0 IP1 aS ++ w_P cI cJ cZ aQ VQ0 VQ1 VQ2 NQ0 LQ0 LQ1 LQ2 LQ3 LQ4 IQ0 IQ1 aS ++ w_T cI cJ cZ aT VT0 NT0 NT1 LT0 IT0 aS) ⟨hx, hb, hml, hown, hG⟩ hM (hw_cwS 2 hG m_220 m_221 m_1 m_222 rfl rfl (by decide +kernel) ⟨Nat.le_of_ble_eq_true rfl, Nat.le_of_ble_eq_true rfl⟩) hK hP hD hS hA [] [0, 1, 2, 3, 4, 5, 6, 7, 8, 9, 10, 11, 12, 13, 14, 15, 16, 17, 18, 19, 20, 21, 22, 23, 24, 25, 26, 27, 28, 29, 30, 31, 32, 33, 34, 35, 36, 37, 38, 39, 40, 41, 42] rfl rfl (by decide) (by decide) (by decide) rfl hl.1 rfl (Nat.le_of_ble_eq_true rfl) d_HaulFlows_bar_29 ⟨Nat.le_of_ble_eq_true rfl, Nat.le_of_ble_eq_true rfl⟩ (fun H locs hP hD hS => ?_)
      have hP : va_P (dC, dI) vwCl (w_H cI cJ cZ aH VH0 aS aP aQ aT ++ w_S cI cJ cZ aS VS0 VS1 VS2 NS0 NS1 NS2 LS0 LS1 LS2 LS3 LS4 LS5 LS6 LS7 LS8 IS0 aY ++ w_Y cI cJ cZ aY VY0 LY0 LY1 LY2 IY0 ++ w_P cI cJ cZ aP VP0 VP1 VP2 NP0 LP0 LP1 LP2 LP3 LP4 IP0 IP1 aS ++ w_P cI cJ cZ aQ VQ0 VQ1 VQ2 NQ0 LQ0 LQ1 LQ2 LQ3 LQ4 IQ0 IQ1 aS ++ w_T cI cJ cZ aT VT0 NT0 NT1 LT0 IT0 aS) H := hP
      have hD : va_D A (w_H cI cJ cZ aH VH0 aS aP aQ aT ++ w_S cI cJ cZ aS VS0 VS1 VS2 NS0 NS1 NS2 LS0 LS1 LS2 LS3 LS4 LS5 LS6 LS7 LS8 IS0 aY ++ w_Y cI cJ cZ aY VY0 LY0 LY1 LY2 IY0 ++ w_P cI cJ cZ aP VP0 VP1 VP2 NP0 LP0 LP1 LP2 LP3 LP4 IP0 IP1 aS ++ w_P cI cJ cZ aQ VQ0 VQ1 VQ2 NQ0 LQ0 LQ1 LQ2 LQ3 LQ4 IQ0 IQ1 aS ++ w_T cI cJ cZ aT VT0 NT0 NT1 LT0 IT0 aS) := hD
      have hbl29 := hp_below (x := x3) (n := 12) (by omega)
      rw [hy29] at hbl29
      refine lv_if_eq (tgt := 40) hx hb d_HaulFlows_bar_32 (by decide) (fun c32 => ?_) (fun c32 => ?_)
      · replace hR := (if_pos c32).symm.trans hR
        refine lv_iconst (v := nI 0) hx hb d_HaulFlows_bar_40 (by decide) ?_
        subst hR
        exact W.zret (v := nI 0) hx hb hr (by decide) (fun t ht hW => ⟨⟨_, (), rfl, rfl, by rw [ht]; exact hP, va_K.moved hW.alike hK, hD⟩, hS.F ht⟩) hS.2.2 d_HaulFlows_bar_41
      · replace hR := (if_neg c32).symm.trans hR
        refine lv_iload_n hx hb d_HaulFlows_bar_35 rfl (lv_at hl 2 rfl) ?_
        refine lv_iload_n hx hb d_HaulFlows_bar_36 rfl (lv_at hl 3 rfl) ?_
        refine lv_icmp_le (tgt := 42) hx hb d_HaulFlows_bar_37 (by decide) (fun c37 => ?_) (fun c37 => ?_)
        · replace hR := (if_pos c37).symm.trans hR
          obtain ⟨hna1, hnb1⟩ := hbl11 c14
          obtain ⟨hna2, hnb2⟩ := hbl20 c23
          obtain ⟨hna3, hnb3⟩ := hbl29 c32
          have en42_1 : nI (x1.toNatClampNeg) = x1 := hw_nat hna1
          have hl : lv_has ls 4 [(0, .ref (aH 0)), (1, .int (nI x1.toNatClampNeg)), (2, .int x2), (3, .int x3)] := by rw [en42_1]; exact hl
          have en42_2 : nI (x2.toNatClampNeg) = x2 := hw_nat hna2
          have hl : lv_has ls 4 [(0, .ref (aH 0)), (1, .int (nI x1.toNatClampNeg)), (2, .int (nI x2.toNatClampNeg)), (3, .int x3)] := by rw [en42_2]; exact hl
          have en42_3 : nI (x3.toNatClampNeg) = x3 := hw_nat hna3
          have hl : lv_has ls 4 [(0, .ref (aH 0)), (1, .int (nI x1.toNatClampNeg)), (2, .int (nI x2.toNatClampNeg)), (3, .int (nI x3.toNatClampNeg))] := by rw [en42_3]; exact hl
          refine lv_aload_n hx hb d_HaulFlows_bar_42 rfl (lv_at hl 0 rfl) ?_
          refine lv_iconst (v := nI 0) hx hb d_HaulFlows_bar_43 (by decide) ?_
          refine va_put (D := (dC, dI)) (ci := 4) (v := .int (nI 0)) (ty := .int) (C := R_HaulFlows) (T := T_HaulFlows) (N := 5) hx hb hG in_HaulFlows ty_HaulFlows tok_HaulFlows nok_HaulFlows hown hK hP hD hS 0 rfl rfl 4 (by decide) (hG _ m_200) (fun _ h9 => h9) rfl (by decide +kernel) rfl rfl (Nat.le_of_ble_eq_true rfl) d_HaulFlows_bar_44 (fun H locs hP hD hS => ?_)
          have hP : va_P (dC, dI) vwCl (w_H cI cJ cZ aH 0 aS aP aQ aT ++ w_S cI cJ cZ aS VS0 VS1 VS2 NS0 NS1 NS2 LS0 LS1 LS2 LS3 LS4 LS5 LS6 LS7 LS8 IS0 aY ++ w_Y cI cJ cZ aY VY0 LY0 LY1 LY2 IY0 ++ w_P cI cJ cZ aP VP0 VP1 VP2 NP0 LP0 LP1 LP2 LP3 LP4 IP0 IP1 aS ++ w_P cI cJ cZ aQ VQ0 VQ1 VQ2 NQ0 LQ0 LQ1 LQ2 LQ3 LQ4 IQ0 IQ1 aS ++ w_T cI cJ cZ aT VT0 NT0 NT1 LT0 IT0 aS) H := hP
          have hD : va_D A (w_H cI cJ cZ aH 0 aS aP aQ aT ++ w_S cI cJ cZ aS VS0 VS1 VS2 NS0 NS1 NS2 LS0 LS1 LS2 LS3 LS4 LS5 LS6 LS7 LS8 IS0 aY ++ w_Y cI cJ cZ aY VY0 LY0 LY1 LY2 IY0 ++ w_P cI cJ cZ aP VP0 VP1 VP2 NP0 LP0 LP1 LP2 LP3 LP4 IP0 IP1 aS ++ w_P cI cJ cZ aQ VQ0 VQ1 VQ2 NQ0 LQ0 LQ1 LQ2 LQ3 LQ4 IQ0 IQ1 aS ++ w_T cI cJ cZ aT VT0 NT0 NT1 LT0 IT0 aS) := hD
          refine lv_aload_n hx hb d_HaulFlows_bar_47 rfl (lv_at hl 0 rfl) ?_
          refine va_get (D := (dC, dI)) (ci := 4) (v := .ref (aS 0)) (C := R_HaulFlows) (T := T_HaulFlows) (N := 5) hx hb hG in_HaulFlows hown hK hP 0 rfl rfl 0 (by decide) (hG _ m_196) (fun _ h9 => h9) rfl d_HaulFlows_bar_48 ?_
          refine va_get (D := (dC, dI)) (ci := 2) (v := .ref (aY 0)) (C := R_Site) (T := T_Site) (N := 17) hx hb hG in_Site hown hK hP 1 rfl rfl 3 (by decide) (hG _ m_65) (fun _ h9 => h9) rfl d_HaulFlows_bar_51 ?_
          refine lv_iload_n hx hb d_HaulFlows_bar_54 rfl (lv_at hl 1 rfl) ?_
          refine lv_iload_n hx hb d_HaulFlows_bar_55 rfl (lv_at hl 2 rfl) ?_
          refine lv_iload_n hx hb d_HaulFlows_bar_56 rfl (lv_at hl 3 rfl) ?_
          obtain ⟨y57, hy57, hR⟩ := hw_bind hR
          have hM := c_Ways_shut l dC dI cI cJ cZ H.size aY VY0 LY0 LY1 LY2 IY0 x1.toNatClampNeg x2.toNatClampNeg x3.toNatClampNeg (by first | assumption | omega) (by first | assumption | omega) (by first | assumption | omega)
          rw [hy57] at hM
          refine hw_callVv (As := [.int (nI x1.toNatClampNeg), .int (nI x2.toNatClampNeg), .int (nI x3.toNatClampNeg)]) (rest := []) (wr := w_H cI cJ cZ aH 0 aS aP aQ aT ++ w_S cI cJ cZ aS VS0 VS1 VS2 NS0 NS1 NS2 LS0 LS1 LS2 LS3 LS4 LS5 LS6 LS7 LS8 IS0 aY ++ w_P cI cJ cZ aP VP0 VP1 VP2 NP0 LP0 LP1 LP2 LP3 LP4 IP0 IP1 aS ++ w_P cI cJ cZ aQ VQ0 VQ1 VQ2 NQ0 LQ0 LQ1 LQ2 LQ3 LQ4 IQ0 IQ1 aS ++ w_T cI cJ cZ aT VT0 NT0 NT1 LT0 IT0 aS) ⟨hx, hb, hml, hown, hG⟩ hM (hw_cwV 3 hG m_270 m_271 m_272 m_3 m_273 rfl rfl (by decide +kernel) ⟨Nat.le_of_ble_eq_true rfl, Nat.le_of_ble_eq_true rfl⟩) hK hP hD hS hA [15, 16, 17, 18, 19] [0, 1, 2, 3, 4, 5, 6, 7, 8, 9, 10, 11, 12, 13, 14, 20, 21, 22, 23, 24, 25, 26, 27, 28, 29, 30, 31, 32, 33, 34, 35, 36, 37, 38, 39, 40, 41, 42] rfl rfl (by decide) (by decide) (by decide) (hw_recv hK hP 15 rfl rfl) rfl hl.1 rfl (Nat.le_of_ble_eq_true rfl) d_HaulFlows_bar_57 ⟨Nat.le_of_ble_eq_true rfl, Nat.le_of_ble_eq_true rfl⟩ (fun H locs hP hD hS => ?_)
          have hP : va_P (dC, dI) vwCl (w_H cI cJ cZ aH 0 aS aP aQ aT ++ w_S cI cJ cZ aS VS0 VS1 VS2 NS0 NS1 NS2 LS0 LS1 LS2 LS3 LS4 LS5 LS6 LS7 LS8 IS0 aY ++ w_Y cI cJ cZ aY VY0 LY0 LY1 LY2 y57 ++ w_P cI cJ cZ aP VP0 VP1 VP2 NP0 LP0 LP1 LP2 LP3 LP4 IP0 IP1 aS ++ w_P cI cJ cZ aQ VQ0 VQ1 VQ2 NQ0 LQ0 LQ1 LQ2 LQ3 LQ4 IQ0 IQ1 aS ++ w_T cI cJ cZ aT VT0 NT0 NT1 LT0 IT0 aS) H := hP.sub [0, 1, 2, 3, 4, 5, 6, 7, 8, 9, 10, 11, 12, 13, 14, 38, 39, 40, 41, 42, 15, 16, 17, 18, 19, 20, 21, 22, 23, 24, 25, 26, 27, 28, 29, 30, 31, 32, 33, 34, 35, 36, 37] rfl
          have hD : va_D A (w_H cI cJ cZ aH 0 aS aP aQ aT ++ w_S cI cJ cZ aS VS0 VS1 VS2 NS0 NS1 NS2 LS0 LS1 LS2 LS3 LS4 LS5 LS6 LS7 LS8 IS0 aY ++ w_Y cI cJ cZ aY VY0 LY0 LY1 LY2 y57 ++ w_P cI cJ cZ aP VP0 VP1 VP2 NP0 LP0 LP1 LP2 LP3 LP4 IP0 IP1 aS ++ w_P cI cJ cZ aQ VQ0 VQ1 VQ2 NQ0 LQ0 LQ1 LQ2 LQ3 LQ4 IQ0 IQ1 aS ++ w_T cI cJ cZ aT VT0 NT0 NT1 LT0 IT0 aS) := hD.sub [0, 1, 2, 3, 4, 5, 6, 7, 8, 9, 10, 11, 12, 13, 14, 38, 39, 40, 41, 42, 15, 16, 17, 18, 19, 20, 21, 22, 23, 24, 25, 26, 27, 28, 29, 30, 31, 32, 33, 34, 35, 36, 37] (by decide) rfl
          refine lv_iconst (v := nI 1) hx hb d_HaulFlows_bar_60 (by decide) ?_
          subst hR
          exact W.zret (v := nI 1) hx hb hr (by decide) (fun t ht hW => ⟨⟨_, (), rfl, rfl, by rw [ht]; exact hP, va_K.moved hW.alike hK, hD⟩, hS.F ht⟩) hS.2.2 d_HaulFlows_bar_61
        · replace hR := (if_neg c37).symm.trans hR
          refine lv_iconst (v := nI 0) hx hb d_HaulFlows_bar_40 (by decide) ?_
          subst hR
          exact W.zret (v := nI 0) hx hb hr (by decide) (fun t ht hW => ⟨⟨_, (), rfl, rfl, by rw [ht]; exact hP, va_K.moved hW.alike hK, hD⟩, hS.F ht⟩) hS.2.2 d_HaulFlows_bar_41
def f_HaulFlows_borrow (VH0 : Nat) (VS1 : Nat) (LS2 : Nat → Int64) (LS3 : Nat → Int64) (x1 : Int64) (x3 : Int64) : Int32 × (Nat) × (Nat) × (Nat → Int64) × (Nat → Int64) :=
  hh_bind (f_HaulFlows_isMetre x1) (fun y1 => if y1 = 0 then ((-1), VH0, VS1, LS2, LS3) else (hh_bind (f_HaulFlows_isCents x3) (fun y8 => if y8 = 0 then ((-1), VH0, VS1, LS2, LS3) else (if VS1 < 4 then (hh_bind (f_Site_addPit VS1 LS2 LS3 x1 x3) (fun y38 => (nI y38.1, 0, y38.2.1, y38.2.2.1, y38.2.2.2))) else ((-1), VH0, VS1, LS2, LS3)))))
set_option maxHeartbeats 4000000 in
set_option maxRecDepth 100000 in
theorem c_HaulFlows_borrow (l : Launch) (dC : Nat → ClassId) (dI : Nat → Nat → Nat) (cI cJ cZ : ClassId) (sz : Nat) (aH : Nat → Nat) (VH0 : Nat) (aS : Nat → Nat) (VS0 : Nat) (VS1 : Nat) (VS2 : Nat) (NS0 : Nat → Nat) (NS1 : Nat → Nat) (NS2 : Nat → Nat) (LS0 : Nat → Int64) (LS1 : Nat → Int64) (LS2 : Nat → Int64) (LS3 : Nat → Int64) (LS4 : Nat → Int64) (LS5 : Nat → Int64) (LS6 : Nat → Int64) (LS7 : Nat → Int64) (LS8 : Nat → Int64) (IS0 : Nat → Int32) (aY : Nat → Nat) (VY0 : Nat) (LY0 : Nat → Int64) (LY1 : Nat → Int64) (LY2 : Nat → Int64) (IY0 : Nat → Int32) (aP : Nat → Nat) (VP0 : Nat) (VP1 : Nat) (VP2 : Nat) (NP0 : Nat → Nat) (LP0 : Nat → Int64) (LP1 : Nat → Int64) (LP2 : Nat → Int64) (LP3 : Nat → Int64) (LP4 : Nat → Int64) (IP0 : Nat → Int32) (IP1 : Nat → Int32) (aQ : Nat → Nat) (VQ0 : Nat) (VQ1 : Nat) (VQ2 : Nat) (NQ0 : Nat → Nat) (LQ0 : Nat → Int64) (LQ1 : Nat → Int64) (LQ2 : Nat → Int64) (LQ3 : Nat → Int64) (LQ4 : Nat → Int64) (IQ0 : Nat → Int32) (IQ1 : Nat → Int32) (aT : Nat → Nat) (VT0 : Nat) (NT0 : Nat → Nat) (NT1 : Nat → Nat) (LT0 : Nat → Int64) (IT0 : Nat → Int32) (x1 : Int64) (x3 : Int64) (hc8 : VS0 ≤ 8) (hp4 : VS1 ≤ 4) (hf8 : VS2 ≤ 8) (hy6 : VY0 ≤ 6) (hk4 : ∀ i, NS0 i < 4) (hcw : ∀ i, NS1 i < 12) (hfw : ∀ i, NS2 i < 12) (hq : ∀ i, NP0 i < 21) (htq : ∀ i, NT1 i < 34) (hst : VH0 ≤ 2) (hpl : VH0 = 1 → VP0 = VS0 + VS1 ∧ VP1 = VS2) (hsf : VT0 ≤ 8) : hh_Ci l y_HaulFlows_borrow u_HaulFlows_borrow ({ frames := 1, cells := 0, slots := 0, locals := 24 }) (dC, dI) vwCl [(cI, .int), (cJ, .long), (cZ, .boolean)] (w_H cI cJ cZ aH VH0 aS aP aQ aT ++ w_S cI cJ cZ aS VS0 VS1 VS2 NS0 NS1 NS2 LS0 LS1 LS2 LS3 LS4 LS5 LS6 LS7 LS8 IS0 aY ++ w_Y cI cJ cZ aY VY0 LY0 LY1 LY2 IY0 ++ w_P cI cJ cZ aP VP0 VP1 VP2 NP0 LP0 LP1 LP2 LP3 LP4 IP0 IP1 aS ++ w_P cI cJ cZ aQ VQ0 VQ1 VQ2 NQ0 LQ0 LQ1 LQ2 LQ3 LQ4 IQ0 IQ1 aS ++ w_T cI cJ cZ aT VT0 NT0 NT1 LT0 IT0 aS) sz [.ref (aH 0), .long x1, .long x3] ((f_HaulFlows_borrow VH0 VS1 LS2 LS3 x1 x3).1) (w_H cI cJ cZ aH ((f_HaulFlows_borrow VH0 VS1 LS2 LS3 x1 x3).2.1) aS aP aQ aT ++ w_S cI cJ cZ aS VS0 ((f_HaulFlows_borrow VH0 VS1 LS2 LS3 x1 x3).2.2.1) VS2 NS0 NS1 NS2 LS0 LS1 ((f_HaulFlows_borrow VH0 VS1 LS2 LS3 x1 x3).2.2.2.1) ((f_HaulFlows_borrow VH0 VS1 LS2 LS3 x1 x3).2.2.2.2) LS4 LS5 LS6 LS7 LS8 IS0 aY ++ w_Y cI cJ cZ aY VY0 LY0 LY1 LY2 IY0 ++ w_P cI cJ cZ aP VP0 VP1 VP2 NP0 LP0 LP1 LP2 LP3 LP4 IP0 IP1 aS ++ w_P cI cJ cZ aQ VQ0 VQ1 VQ2 NQ0 LQ0 LQ1 LQ2 LQ3 LQ4 IQ0 IQ1 aS ++ w_T cI cJ cZ aT VT0 NT0 NT1 LT0 IT0 aS) 0 0 := by
  unfold hh_Ci
  refine Met.ofW (cc := b_HaulFlows_borrow) (maxL := 5) (ret := (some .int)) (by decide) rfl ?_
  intro p e s m args below meth c s₁ B hml hv
  obtain ⟨rfl, hsz, hP, hK, hD0⟩ := hv
  have hx := B.exec
  have hb := B.bytes
  have hr := B.returns
  have hts := atoms_spec (ws := u_HaulFlows_borrow) B.pre
  have hG : ∀ w ∈ wG, w.before ([.ref (aH 0), .long x1, .long x3]).toArray s = true := fun w h => hts w (List.mem_cons_of_mem _ h)
  have hown : s.vm.findClass R_HaulFlows = some m.cls := findClass_of_methodNamed B.named
  have hlocks := B.notSynchronized
  subst hsz
  have hD := hD0.self (sz := s.heap.size)
  generalize hAe : va_A (w_H cI cJ cZ aH VH0 aS aP aQ aT ++ w_S cI cJ cZ aS VS0 VS1 VS2 NS0 NS1 NS2 LS0 LS1 LS2 LS3 LS4 LS5 LS6 LS7 LS8 IS0 aY ++ w_Y cI cJ cZ aY VY0 LY0 LY1 LY2 IY0 ++ w_P cI cJ cZ aP VP0 VP1 VP2 NP0 LP0 LP1 LP2 LP3 LP4 IP0 IP1 aS ++ w_P cI cJ cZ aQ VQ0 VQ1 VQ2 NQ0 LQ0 LQ1 LQ2 LQ3 LQ4 IQ0 IQ1 aS ++ w_T cI cJ cZ aT VT0 NT0 NT1 LT0 IT0 aS) s.heap.size = A at hD ⊢
  have hA : ∀ q : Nat, s.heap.size ≤ q → A q := fun q h => by rw [← hAe]; exact Or.inr h
  have hS : va_S A s.heap s.heap [] := va_S.rf
  have hl := lv_entry ([.ref (aH 0), .long x1, .long x3]) (n := 5) (Nat.le_of_ble_eq_true rfl)
  rw [lg_entry_eq]
  generalize (lg_sl ([.ref (aH 0), .long x1, .long x3]) ++ List.replicate (5 - (lg_sl ([.ref (aH 0), .long x1, .long x3])).length) Slot.unset).toArray = ls at hl ⊢
  have hl : lv_has ls 5 [(0, .ref (aH 0)), (1, .long x1), (3, .long x3)] := hl
  generalize hR : f_HaulFlows_borrow VH0 VS1 LS2 LS3 x1 x3 = r0
  obtain ⟨H, locs, hHe, hle⟩ : ∃ (H : Heap) (locs : List Loc), s.heap = H ∧ [] = locs := ⟨_, _, rfl, rfl⟩
  have hP : va_P (dC, dI) vwCl (w_H cI cJ cZ aH VH0 aS aP aQ aT ++ w_S cI cJ cZ aS VS0 VS1 VS2 NS0 NS1 NS2 LS0 LS1 LS2 LS3 LS4 LS5 LS6 LS7 LS8 IS0 aY ++ w_Y cI cJ cZ aY VY0 LY0 LY1 LY2 IY0 ++ w_P cI cJ cZ aP VP0 VP1 VP2 NP0 LP0 LP1 LP2 LP3 LP4 IP0 IP1 aS ++ w_P cI cJ cZ aQ VQ0 VQ1 VQ2 NQ0 LQ0 LQ1 LQ2 LQ3 LQ4 IQ0 IQ1 aS ++ w_T cI cJ cZ aT VT0 NT0 NT1 LT0 IT0 aS) H := by rw [← hHe]; exact hP
  have hS : va_S A s.heap H locs := by rw [← hHe, ← hle]; exact hS
  refine hw_start hHe hle ?_
  unfold f_HaulFlows_borrow at hR
  refine lv_lload_n hx hb d_HaulFlows_borrow_0 rfl (lv_at hl 1 rfl) ?_
  obtain ⟨y1, hy1, hR⟩ := hw_bind hR
  have hM := c_HaulFlows_isMetre l dC dI cI cJ cZ H.size x1
  rw [hy1] at hM
  refine hw_callSi (As := [.long x1]) (rest := []) (wr := w_H cI cJ cZ aH VH0 aS aP aQ aT ++ w_S cI cJ cZ aS VS0 VS1 VS2 NS0 NS1 NS2 LS0 LS1 LS2 LS3 LS4 LS5 LS6 LS7 LS8 IS0 aY ++ w_Y cI cJ cZ aY VY0 LY0 LY1 LY2 IY0 ++ w_P cI cJ cZ aP VP0 VP1 VP2 NP0 LP0 LP1 LP2 LP3 LP4 IP0 IP1 aS ++ w_P cI cJ cZ aQ VQ0 VQ1 VQ2 NQ0 LQ0 LQ1 LQ2 LQ3 LQ4 IQ0 IQ1 aS ++ w_T cI cJ cZ aT VT0 NT0 NT1 LT0 IT0 aS) ⟨hx, hb, hml, hown, hG⟩ hM (hw_cwS 1 hG m_223 m_224 m_1 m_225 rfl rfl (by decide +kernel) ⟨Nat.le_of_ble_eq_true rfl, Nat.le_of_ble_eq_true rfl⟩) hK hP hD hS hA [] [0, 1, 2, 3, 4, 5, 6, 7, 8, 9, 10, 11, 12, 13, 14, 15, 16, 17, 18, 19, 20, 21, 22, 23, 24, 25, 26, 27, 28, 29, 30, 31, 32, 33, 34, 35, 36, 37, 38, 39, 40, 41, 42] rfl rfl (by decide) (by decide) (by decide) rfl hl.1 rfl (Nat.le_of_ble_eq_true rfl) d_HaulFlows_borrow_1 ⟨Nat.le_of_ble_eq_true rfl, Nat.le_of_ble_eq_true rfl⟩ (fun H locs hP hD hS => ?_)
  have hP : va_P (dC, dI) vwCl (w_H cI cJ cZ aH VH0 aS aP aQ aT ++ w_S cI cJ cZ aS VS0 VS1 VS2 NS0 NS1 NS2 LS0 LS1 LS2 LS3 LS4 LS5 LS6 LS7 LS8 IS0 aY ++ w_Y cI cJ cZ aY VY0 LY0 LY1 LY2 IY0 ++ w_P cI cJ cZ aP VP0 VP1 VP2 NP0 LP0 LP1 LP2 LP3 LP4 IP0 IP1 aS ++ w_P cI cJ cZ aQ VQ0 VQ1 VQ2 NQ0 LQ0 LQ1 LQ2 LQ3 LQ4 IQ0 IQ1 aS ++ w_T cI cJ cZ aT VT0 NT0 NT1 LT0 IT0 aS) H := hP
  have hD : va_D A (w_H cI cJ cZ aH VH0 aS aP aQ aT ++ w_S cI cJ cZ aS VS0 VS1 VS2 NS0 NS1 NS2 LS0 LS1 LS2 LS3 LS4 LS5 LS6 LS7 LS8 IS0 aY ++ w_Y cI cJ cZ aY VY0 LY0 LY1 LY2 IY0 ++ w_P cI cJ cZ aP VP0 VP1 VP2 NP0 LP0 LP1 LP2 LP3 LP4 IP0 IP1 aS ++ w_P cI cJ cZ aQ VQ0 VQ1 VQ2 NQ0 LQ0 LQ1 LQ2 LQ3 LQ4 IQ0 IQ1 aS ++ w_T cI cJ cZ aT VT0 NT0 NT1 LT0 IT0 aS) := hD
  refine lv_if_eq (tgt := 25) hx hb d_HaulFlows_borrow_4 (by decide) (fun c4 => ?_) (fun c4 => ?_)
  · replace hR := (if_pos c4).symm.trans hR
    refine lv_iconst (v := (-1)) hx hb d_HaulFlows_borrow_25 (by decide) ?_
    subst hR
    exact W.iret (v := (-1)) hx hb hr (fun t ht hW => ⟨⟨_, (), rfl, rfl, by rw [ht]; exact hP, va_K.moved hW.alike hK, hD⟩, hS.F ht⟩) hS.2.2 d_HaulFlows_borrow_26
  · replace hR := (if_neg c4).symm.trans hR
    refine lv_lload_n hx hb d_HaulFlows_borrow_7 rfl (lv_at hl 2 rfl) ?_
    obtain ⟨y8, hy8, hR⟩ := hw_bind hR
    have hM := c_HaulFlows_isCents l dC dI cI cJ cZ H.size x3
    rw [hy8] at hM
    refine hw_callSi (As := [.long x3]) (rest := []) (wr := w_H cI cJ cZ aH VH0 aS aP aQ aT ++ w_S cI cJ cZ aS VS0 VS1 VS2 NS0 NS1 NS2 LS0 LS1 LS2 LS3 LS4 LS5 LS6 LS7 LS8 IS0 aY ++ w_Y cI cJ cZ aY VY0 LY0 LY1 LY2 IY0 ++ w_P cI cJ cZ aP VP0 VP1 VP2 NP0 LP0 LP1 LP2 LP3 LP4 IP0 IP1 aS ++ w_P cI cJ cZ aQ VQ0 VQ1 VQ2 NQ0 LQ0 LQ1 LQ2 LQ3 LQ4 IQ0 IQ1 aS ++ w_T cI cJ cZ aT VT0 NT0 NT1 LT0 IT0 aS) ⟨hx, hb, hml, hown, hG⟩ hM (hw_cwS 1 hG m_259 m_260 m_1 m_261 rfl rfl (by decide +kernel) ⟨Nat.le_of_ble_eq_true rfl, Nat.le_of_ble_eq_true rfl⟩) hK hP hD hS hA [] [0, 1, 2, 3, 4, 5, 6, 7, 8, 9, 10, 11, 12, 13, 14, 15, 16, 17, 18, 19, 20, 21, 22, 23, 24, 25, 26, 27, 28, 29, 30, 31, 32, 33, 34, 35, 36, 37, 38, 39, 40, 41, 42] rfl rfl (by decide) (by decide) (by decide) rfl hl.1 rfl (Nat.le_of_ble_eq_true rfl) d_HaulFlows_borrow_8 ⟨Nat.le_of_ble_eq_true rfl, Nat.le_of_ble_eq_true rfl⟩ (fun H locs hP hD hS => ?_)
    have hP : va_P (dC, dI) vwCl (w_H cI cJ cZ aH VH0 aS aP aQ aT ++ w_S cI cJ cZ aS VS0 VS1 VS2 NS0 NS1 NS2 LS0 LS1 LS2 LS3 LS4 LS5 LS6 LS7 LS8 IS0 aY ++ w_Y cI cJ cZ aY VY0 LY0 LY1 LY2 IY0 ++ w_P cI cJ cZ aP VP0 VP1 VP2 NP0 LP0 LP1 LP2 LP3 LP4 IP0 IP1 aS ++ w_P cI cJ cZ aQ VQ0 VQ1 VQ2 NQ0 LQ0 LQ1 LQ2 LQ3 LQ4 IQ0 IQ1 aS ++ w_T cI cJ cZ aT VT0 NT0 NT1 LT0 IT0 aS) H := hP
    have hD : va_D A (w_H cI cJ cZ aH VH0 aS aP aQ aT ++ w_S cI cJ cZ aS VS0 VS1 VS2 NS0 NS1 NS2 LS0 LS1 LS2 LS3 LS4 LS5 LS6 LS7 LS8 IS0 aY ++ w_Y cI cJ cZ aY VY0 LY0 LY1 LY2 IY0 ++ w_P cI cJ cZ aP VP0 VP1 VP2 NP0 LP0 LP1 LP2 LP3 LP4 IP0 IP1 aS ++ w_P cI cJ cZ aQ VQ0 VQ1 VQ2 NQ0 LQ0 LQ1 LQ2 LQ3 LQ4 IQ0 IQ1 aS ++ w_T cI cJ cZ aT VT0 NT0 NT1 LT0 IT0 aS) := hD
    refine lv_if_eq (tgt := 25) hx hb d_HaulFlows_borrow_11 (by decide) (fun c11 => ?_) (fun c11 => ?_)
    · replace hR := (if_pos c11).symm.trans hR
      refine lv_iconst (v := (-1)) hx hb d_HaulFlows_borrow_25 (by decide) ?_
      subst hR
      exact W.iret (v := (-1)) hx hb hr (fun t ht hW => ⟨⟨_, (), rfl, rfl, by rw [ht]; exact hP, va_K.moved hW.alike hK, hD⟩, hS.F ht⟩) hS.2.2 d_HaulFlows_borrow_26
    · replace hR := (if_neg c11).symm.trans hR
      refine lv_aload_n hx hb d_HaulFlows_borrow_14 rfl (lv_at hl 0 rfl) ?_
      refine va_get (D := (dC, dI)) (ci := 4) (v := .ref (aS 0)) (C := R_HaulFlows) (T := T_HaulFlows) (N := 5) hx hb hG in_HaulFlows hown hK hP 0 rfl rfl 0 (by decide) (hG _ m_196) (fun _ h9 => h9) rfl d_HaulFlows_borrow_15 ?_
      refine va_get (D := (dC, dI)) (ci := 2) (v := .int (nI VS1)) (C := R_Site) (T := T_Site) (N := 17) hx hb hG in_Site hown hK hP 1 rfl rfl 1 (by decide) (hG _ m_59) (fun _ h9 => h9) rfl d_HaulFlows_borrow_18 ?_
      refine lv_iconst (v := nI 4) hx hb d_HaulFlows_borrow_21 (by decide) ?_
      refine hw_icmp_lt (tgt := 27) hx hb d_HaulFlows_borrow_22 (by decide) (by omega) (by omega) (fun c22 => ?_) (fun c22 => ?_)
      · replace hR := (if_pos c22).symm.trans hR
        refine lv_aload_n hx hb d_HaulFlows_borrow_27 rfl (lv_at hl 0 rfl) ?_
        refine lv_iconst (v := nI 0) hx hb d_HaulFlows_borrow_28 (by decide) ?_
        refine va_put (D := (dC, dI)) (ci := 4) (v := .int (nI 0)) (ty := .int) (C := R_HaulFlows) (T := T_HaulFlows) (N := 5) hx hb hG in_HaulFlows ty_HaulFlows tok_HaulFlows nok_HaulFlows hown hK hP hD hS 0 rfl rfl 4 (by decide) (hG _ m_200) (fun _ h9 => h9) rfl (by decide +kernel) rfl rfl (Nat.le_of_ble_eq_true rfl) d_HaulFlows_borrow_29 (fun H locs hP hD hS => ?_)
        have hP : va_P (dC, dI) vwCl (w_H cI cJ cZ aH 0 aS aP aQ aT ++ w_S cI cJ cZ aS VS0 VS1 VS2 NS0 NS1 NS2 LS0 LS1 LS2 LS3 LS4 LS5 LS6 LS7 LS8 IS0 aY ++ w_Y cI cJ cZ aY VY0 LY0 LY1 LY2 IY0 ++ w_P cI cJ cZ aP VP0 VP1 VP2 NP0 LP0 LP1 LP2 LP3 LP4 IP0 IP1 aS ++ w_P cI cJ cZ aQ VQ0 VQ1 VQ2 NQ0 LQ0 LQ1 LQ2 LQ3 LQ4 IQ0 IQ1 aS ++ w_T cI cJ cZ aT VT0 NT0 NT1 LT0 IT0 aS) H := hP
        have hD : va_D A (w_H cI cJ cZ aH 0 aS aP aQ aT ++ w_S cI cJ cZ aS VS0 VS1 VS2 NS0 NS1 NS2 LS0 LS1 LS2 LS3 LS4 LS5 LS6 LS7 LS8 IS0 aY ++ w_Y cI cJ cZ aY VY0 LY0 LY1 LY2 IY0 ++ w_P cI cJ cZ aP VP0 VP1 VP2 NP0 LP0 LP1 LP2 LP3 LP4 IP0 IP1 aS ++ w_P cI cJ cZ aQ VQ0 VQ1 VQ2 NQ0 LQ0 LQ1 LQ2 LQ3 LQ4 IQ0 IQ1 aS ++ w_T cI cJ cZ aT VT0 NT0 NT1 LT0 IT0 aS) := hD
        refine lv_aload_n hx hb d_HaulFlows_borrow_32 rfl (lv_at hl 0 rfl) ?_
        refine va_get (D := (dC, dI)) (ci := 4) (v := .ref (aS 0)) (C := R_HaulFlows) (T := T_HaulFlows) (N := 5) hx hb hG in_HaulFlows hown hK hP 0 rfl rfl 0 (by decide) (hG _ m_196) (fun _ h9 => h9) rfl d_HaulFlows_borrow_33 ?_
        refine lv_lload_n hx hb d_HaulFlows_borrow_36 rfl (lv_at hl 1 rfl) ?_
        refine lv_lload_n hx hb d_HaulFlows_borrow_37 rfl (lv_at hl 2 rfl) ?_
        obtain ⟨y38, hy38, hR⟩ := hw_bind hR
        have hM := c_Site_addPit l dC dI cI cJ cZ H.size aS VS0 VS1 VS2 NS0 NS1 NS2 LS0 LS1 LS2 LS3 LS4 LS5 LS6 LS7 LS8 IS0 aY VY0 LY0 LY1 LY2 IY0 x1 x3 (by first | assumption | omega)
        rw [hy38] at hM
        refine hw_callVi (As := [.long x1, .long x3]) (rest := []) (wr := w_H cI cJ cZ aH 0 aS aP aQ aT ++ w_P cI cJ cZ aP VP0 VP1 VP2 NP0 LP0 LP1 LP2 LP3 LP4 IP0 IP1 aS ++ w_P cI cJ cZ aQ VQ0 VQ1 VQ2 NQ0 LQ0 LQ1 LQ2 LQ3 LQ4 IQ0 IQ1 aS ++ w_T cI cJ cZ aT VT0 NT0 NT1 LT0 IT0 aS) ⟨hx, hb, hml, hown, hG⟩ hM (hw_cwV 2 hG m_278 m_279 m_280 m_2 m_281 rfl rfl (by decide +kernel) ⟨Nat.le_of_ble_eq_true rfl, Nat.le_of_ble_eq_true rfl⟩) hK hP hD hS hA [1, 2, 3, 4, 5, 6, 7, 8, 9, 10, 11, 12, 13, 14, 15, 16, 17, 18, 19] [0, 20, 21, 22, 23, 24, 25, 26, 27, 28, 29, 30, 31, 32, 33, 34, 35, 36, 37, 38, 39, 40, 41, 42] rfl rfl (by decide) (by decide) (by decide) (hw_recv hK hP 1 rfl rfl) rfl hl.1 rfl (Nat.le_of_ble_eq_true rfl) d_HaulFlows_borrow_38 ⟨Nat.le_of_ble_eq_true rfl, Nat.le_of_ble_eq_true rfl⟩ (fun H locs hP hD hS => ?_)
        have hP : va_P (dC, dI) vwCl (w_H cI cJ cZ aH 0 aS aP aQ aT ++ w_S cI cJ cZ aS VS0 y38.2.1 VS2 NS0 NS1 NS2 LS0 LS1 y38.2.2.1 y38.2.2.2 LS4 LS5 LS6 LS7 LS8 IS0 aY ++ w_Y cI cJ cZ aY VY0 LY0 LY1 LY2 IY0 ++ w_P cI cJ cZ aP VP0 VP1 VP2 NP0 LP0 LP1 LP2 LP3 LP4 IP0 IP1 aS ++ w_P cI cJ cZ aQ VQ0 VQ1 VQ2 NQ0 LQ0 LQ1 LQ2 LQ3 LQ4 IQ0 IQ1 aS ++ w_T cI cJ cZ aT VT0 NT0 NT1 LT0 IT0 aS) H := hP.sub [0, 24, 25, 26, 27, 28, 29, 30, 31, 32, 33, 34, 35, 36, 37, 38, 39, 40, 41, 42, 1, 2, 3, 4, 5, 6, 7, 8, 9, 10, 11, 12, 13, 14, 15, 16, 17, 18, 19, 20, 21, 22, 23] rfl
        have hD : va_D A (w_H cI cJ cZ aH 0 aS aP aQ aT ++ w_S cI cJ cZ aS VS0 y38.2.1 VS2 NS0 NS1 NS2 LS0 LS1 y38.2.2.1 y38.2.2.2 LS4 LS5 LS6 LS7 LS8 IS0 aY ++ w_Y cI cJ cZ aY VY0 LY0 LY1 LY2 IY0 ++ w_P cI cJ cZ aP VP0 VP1 VP2 NP0 LP0 LP1 LP2 LP3 LP4 IP0 IP1 aS ++ w_P cI cJ cZ aQ VQ0 VQ1 VQ2 NQ0 LQ0 LQ1 LQ2 LQ3 LQ4 IQ0 IQ1 aS ++ w_T cI cJ cZ aT VT0 NT0 NT1 LT0 IT0 aS) := hD.sub [0, 24, 25, 26, 27, 28, 29, 30, 31, 32, 33, 34, 35, 36, 37, 38, 39, 40, 41, 42, 1, 2, 3, 4, 5, 6, 7, 8, 9, 10, 11, 12, 13, 14, 15, 16, 17, 18, 19, 20, 21, 22, 23] (by decide) rfl
        subst hR
        exact W.iret (v := nI y38.1) hx hb hr (fun t ht hW => ⟨⟨_, (), rfl, rfl, by rw [ht]; exact hP, va_K.moved hW.alike hK, hD⟩, hS.F ht⟩) hS.2.2 d_HaulFlows_borrow_41
      · replace hR := (if_neg c22).symm.trans hR
        refine lv_iconst (v := (-1)) hx hb d_HaulFlows_borrow_25 (by decide) ?_
        subst hR
        exact W.iret (v := (-1)) hx hb hr (fun t ht hW => ⟨⟨_, (), rfl, rfl, by rw [ht]; exact hP, va_K.moved hW.alike hK, hD⟩, hS.F ht⟩) hS.2.2 d_HaulFlows_borrow_26
def f_HaulFlows_most (VH0 : Nat) (LS8 : Nat → Int64) (x1 : Int32) (x2 : Int64) : Int32 × (Nat) × (Nat → Int64) :=
  hh_bind (f_HaulFlows_isBelow x1 (nI 12)) (fun y3 => if y3 = 0 then (nI 0, VH0, LS8) else (if x2 < 0 then (nI 0, VH0, LS8) else (if x2 ≤ 10000000 then (nI 1, 0, vp_updL LS8 x1.toNatClampNeg x2) else (nI 0, VH0, LS8))))
set_option maxHeartbeats 4000000 in
set_option maxRecDepth 100000 in
theorem c_HaulFlows_most (l : Launch) (dC : Nat → ClassId) (dI : Nat → Nat → Nat) (cI cJ cZ : ClassId) (sz : Nat) (aH : Nat → Nat) (VH0 : Nat) (aS : Nat → Nat) (VS0 : Nat) (VS1 : Nat) (VS2 : Nat) (NS0 : Nat → Nat) (NS1 : Nat → Nat) (NS2 : Nat → Nat) (LS0 : Nat → Int64) (LS1 : Nat → Int64) (LS2 : Nat → Int64) (LS3 : Nat → Int64) (LS4 : Nat → Int64) (LS5 : Nat → Int64) (LS6 : Nat → Int64) (LS7 : Nat → Int64) (LS8 : Nat → Int64) (IS0 : Nat → Int32) (aY : Nat → Nat) (VY0 : Nat) (LY0 : Nat → Int64) (LY1 : Nat → Int64) (LY2 : Nat → Int64) (IY0 : Nat → Int32) (aP : Nat → Nat) (VP0 : Nat) (VP1 : Nat) (VP2 : Nat) (NP0 : Nat → Nat) (LP0 : Nat → Int64) (LP1 : Nat → Int64) (LP2 : Nat → Int64) (LP3 : Nat → Int64) (LP4 : Nat → Int64) (IP0 : Nat → Int32) (IP1 : Nat → Int32) (aQ : Nat → Nat) (VQ0 : Nat) (VQ1 : Nat) (VQ2 : Nat) (NQ0 : Nat → Nat) (LQ0 : Nat → Int64) (LQ1 : Nat → Int64) (LQ2 : Nat → Int64) (LQ3 : Nat → Int64) (LQ4 : Nat → Int64) (IQ0 : Nat → Int32) (IQ1 : Nat → Int32) (aT : Nat → Nat) (VT0 : Nat) (NT0 : Nat → Nat) (NT1 : Nat → Nat) (LT0 : Nat → Int64) (IT0 : Nat → Int32) (x1 : Int32) (x2 : Int64) (hc8 : VS0 ≤ 8) (hp4 : VS1 ≤ 4) (hf8 : VS2 ≤ 8) (hy6 : VY0 ≤ 6) (hk4 : ∀ i, NS0 i < 4) (hcw : ∀ i, NS1 i < 12) (hfw : ∀ i, NS2 i < 12) (hq : ∀ i, NP0 i < 21) (htq : ∀ i, NT1 i < 34) (hst : VH0 ≤ 2) (hpl : VH0 = 1 → VP0 = VS0 + VS1 ∧ VP1 = VS2) (hsf : VT0 ≤ 8) : hh_Ci l y_HaulFlows_most u_HaulFlows_most ({ frames := 1, cells := 0, slots := 0, locals := 21 }) (dC, dI) vwCl [(cI, .int), (cJ, .long), (cZ, .boolean)] (w_H cI cJ cZ aH VH0 aS aP aQ aT ++ w_S cI cJ cZ aS VS0 VS1 VS2 NS0 NS1 NS2 LS0 LS1 LS2 LS3 LS4 LS5 LS6 LS7 LS8 IS0 aY ++ w_Y cI cJ cZ aY VY0 LY0 LY1 LY2 IY0 ++ w_P cI cJ cZ aP VP0 VP1 VP2 NP0 LP0 LP1 LP2 LP3 LP4 IP0 IP1 aS ++ w_P cI cJ cZ aQ VQ0 VQ1 VQ2 NQ0 LQ0 LQ1 LQ2 LQ3 LQ4 IQ0 IQ1 aS ++ w_T cI cJ cZ aT VT0 NT0 NT1 LT0 IT0 aS) sz [.ref (aH 0), .int x1, .long x2] ((f_HaulFlows_most VH0 LS8 x1 x2).1) (w_H cI cJ cZ aH ((f_HaulFlows_most VH0 LS8 x1 x2).2.1) aS aP aQ aT ++ w_S cI cJ cZ aS VS0 VS1 VS2 NS0 NS1 NS2 LS0 LS1 LS2 LS3 LS4 LS5 LS6 LS7 ((f_HaulFlows_most VH0 LS8 x1 x2).2.2) IS0 aY ++ w_Y cI cJ cZ aY VY0 LY0 LY1 LY2 IY0 ++ w_P cI cJ cZ aP VP0 VP1 VP2 NP0 LP0 LP1 LP2 LP3 LP4 IP0 IP1 aS ++ w_P cI cJ cZ aQ VQ0 VQ1 VQ2 NQ0 LQ0 LQ1 LQ2 LQ3 LQ4 IQ0 IQ1 aS ++ w_T cI cJ cZ aT VT0 NT0 NT1 LT0 IT0 aS) 0 0 := by
  unfold hh_Ci
  refine Met.ofW (cc := b_HaulFlows_most) (maxL := 4) (ret := (some .boolean)) (by decide) rfl ?_
  intro p e s m args below meth c s₁ B hml hv
  obtain ⟨rfl, hsz, hP, hK, hD0⟩ := hv
  have hx := B.exec
  have hb := B.bytes
  have hr := B.returns
  have hts := atoms_spec (ws := u_HaulFlows_most) B.pre
  have hG : ∀ w ∈ wG, w.before ([.ref (aH 0), .int x1, .long x2]).toArray s = true := fun w h => hts w (List.mem_cons_of_mem _ h)
  have hown : s.vm.findClass R_HaulFlows = some m.cls := findClass_of_methodNamed B.named
  have hlocks := B.notSynchronized
  subst hsz
  have hD := hD0.self (sz := s.heap.size)
  generalize hAe : va_A (w_H cI cJ cZ aH VH0 aS aP aQ aT ++ w_S cI cJ cZ aS VS0 VS1 VS2 NS0 NS1 NS2 LS0 LS1 LS2 LS3 LS4 LS5 LS6 LS7 LS8 IS0 aY ++ w_Y cI cJ cZ aY VY0 LY0 LY1 LY2 IY0 ++ w_P cI cJ cZ aP VP0 VP1 VP2 NP0 LP0 LP1 LP2 LP3 LP4 IP0 IP1 aS ++ w_P cI cJ cZ aQ VQ0 VQ1 VQ2 NQ0 LQ0 LQ1 LQ2 LQ3 LQ4 IQ0 IQ1 aS ++ w_T cI cJ cZ aT VT0 NT0 NT1 LT0 IT0 aS) s.heap.size = A at hD ⊢
  have hA : ∀ q : Nat, s.heap.size ≤ q → A q := fun q h => by rw [← hAe]; exact Or.inr h
  have hS : va_S A s.heap s.heap [] := va_S.rf
  have hl := lv_entry ([.ref (aH 0), .int x1, .long x2]) (n := 4) (Nat.le_of_ble_eq_true rfl)
  rw [lg_entry_eq]
  generalize (lg_sl ([.ref (aH 0), .int x1, .long x2]) ++ List.replicate (4 - (lg_sl ([.ref (aH 0), .int x1, .long x2])).length) Slot.unset).toArray = ls at hl ⊢
  have hl : lv_has ls 4 [(0, .ref (aH 0)), (1, .int x1), (2, .long x2)] := hl
  generalize hR : f_HaulFlows_most VH0 LS8 x1 x2 = r0
  obtain ⟨H, locs, hHe, hle⟩ : ∃ (H : Heap) (locs : List Loc), s.heap = H ∧ [] = locs := ⟨_, _, rfl, rfl⟩
  have hP : va_P (dC, dI) vwCl (w_H cI cJ cZ aH VH0 aS aP aQ aT ++ w_S cI cJ cZ aS VS0 VS1 VS2 NS0 NS1 NS2 LS0 LS1 LS2 LS3 LS4 LS5 LS6 LS7 LS8 IS0 aY ++ w_Y cI cJ cZ aY VY0 LY0 LY1 LY2 IY0 ++ w_P cI cJ cZ aP VP0 VP1 VP2 NP0 LP0 LP1 LP2 LP3 LP4 IP0 IP1 aS ++ w_P cI cJ cZ aQ VQ0 VQ1 VQ2 NQ0 LQ0 LQ1 LQ2 LQ3 LQ4 IQ0 IQ1 aS ++ w_T cI cJ cZ aT VT0 NT0 NT1 LT0 IT0 aS) H := by rw [← hHe]; exact hP
  have hS : va_S A s.heap H locs := by rw [← hHe, ← hle]; exact hS
  refine hw_start hHe hle ?_
  unfold f_HaulFlows_most at hR
  refine lv_iload_n hx hb d_HaulFlows_most_0 rfl (lv_at hl 1 rfl) ?_
  refine lv_bipush (v := nI 12) hx hb d_HaulFlows_most_1 (by decide) ?_
  obtain ⟨y3, hy3, hR⟩ := hw_bind hR
  have hM := c_HaulFlows_isBelow l dC dI cI cJ cZ H.size x1 (nI 12)
  rw [hy3] at hM
  refine hw_callSi (As := [.int x1, .int (nI 12)]) (rest := []) (wr := w_H cI cJ cZ aH VH0 aS aP aQ aT ++ w_S cI cJ cZ aS VS0 VS1 VS2 NS0 NS1 NS2 LS0 LS1 LS2 LS3 LS4 LS5 LS6 LS7 LS8 IS0 aY ++ w_Y cI cJ cZ aY VY0 LY0 LY1 LY2 IY0 ++ w_P cI cJ cZ aP VP0 VP1 VP2 NP0 LP0 LP1 LP2 LP3 LP4 IP0 IP1 aS ++ w_P cI cJ cZ aQ VQ0 VQ1 VQ2 NQ0 LQ0 LQ1 LQ2 LQ3 LQ4 IQ0 IQ1 aS ++ w_T cI cJ cZ aT VT0 NT0 NT1 LT0 IT0 aS) ⟨hx, hb, hml, hown, hG⟩ hM (hw_cwS 2 hG m_220 m_221 m_1 m_222 rfl rfl (by decide +kernel) ⟨Nat.le_of_ble_eq_true rfl, Nat.le_of_ble_eq_true rfl⟩) hK hP hD hS hA [] [0, 1, 2, 3, 4, 5, 6, 7, 8, 9, 10, 11, 12, 13, 14, 15, 16, 17, 18, 19, 20, 21, 22, 23, 24, 25, 26, 27, 28, 29, 30, 31, 32, 33, 34, 35, 36, 37, 38, 39, 40, 41, 42] rfl rfl (by decide) (by decide) (by decide) rfl hl.1 rfl (Nat.le_of_ble_eq_true rfl) d_HaulFlows_most_3 ⟨Nat.le_of_ble_eq_true rfl, Nat.le_of_ble_eq_true rfl⟩ (fun H locs hP hD hS => ?_)
  have hP : va_P (dC, dI) vwCl (w_H cI cJ cZ aH VH0 aS aP aQ aT ++ w_S cI cJ cZ aS VS0 VS1 VS2 NS0 NS1 NS2 LS0 LS1 LS2 LS3 LS4 LS5 LS6 LS7 LS8 IS0 aY ++ w_Y cI cJ cZ aY VY0 LY0 LY1 LY2 IY0 ++ w_P cI cJ cZ aP VP0 VP1 VP2 NP0 LP0 LP1 LP2 LP3 LP4 IP0 IP1 aS ++ w_P cI cJ cZ aQ VQ0 VQ1 VQ2 NQ0 LQ0 LQ1 LQ2 LQ3 LQ4 IQ0 IQ1 aS ++ w_T cI cJ cZ aT VT0 NT0 NT1 LT0 IT0 aS) H := hP
  have hD : va_D A (w_H cI cJ cZ aH VH0 aS aP aQ aT ++ w_S cI cJ cZ aS VS0 VS1 VS2 NS0 NS1 NS2 LS0 LS1 LS2 LS3 LS4 LS5 LS6 LS7 LS8 IS0 aY ++ w_Y cI cJ cZ aY VY0 LY0 LY1 LY2 IY0 ++ w_P cI cJ cZ aP VP0 VP1 VP2 NP0 LP0 LP1 LP2 LP3 LP4 IP0 IP1 aS ++ w_P cI cJ cZ aQ VQ0 VQ1 VQ2 NQ0 LQ0 LQ1 LQ2 LQ3 LQ4 IQ0 IQ1 aS ++ w_T cI cJ cZ aT VT0 NT0 NT1 LT0 IT0 aS) := hD
  have hbl3 := hp_below (x := x1) (n := 12) (by omega)
  rw [hy3] at hbl3
  refine lv_if_eq (tgt := 23) hx hb d_HaulFlows_most_6 (by decide) (fun c6 => ?_) (fun c6 => ?_)
  · replace hR := (if_pos c6).symm.trans hR
    refine lv_iconst (v := nI 0) hx hb d_HaulFlows_most_23 (by decide) ?_
    subst hR
    exact W.zret (v := nI 0) hx hb hr (by decide) (fun t ht hW => ⟨⟨_, (), rfl, rfl, by rw [ht]; exact hP, va_K.moved hW.alike hK, hD⟩, hS.F ht⟩) hS.2.2 d_HaulFlows_most_24
  · replace hR := (if_neg c6).symm.trans hR
    refine lv_lload_n hx hb d_HaulFlows_most_9 rfl (lv_at hl 2 rfl) ?_
    refine lv_lconst (v := 0) hx hb d_HaulFlows_most_10 (by decide) ?_
    refine hw_lcmp_lt (tgt := 23) hx hb d_HaulFlows_most_11 d_HaulFlows_most_12 (by decide) (fun c11 => ?_) (fun c11 => ?_)
    · replace hR := (if_pos c11).symm.trans hR
      refine lv_iconst (v := nI 0) hx hb d_HaulFlows_most_23 (by decide) ?_
      subst hR
      exact W.zret (v := nI 0) hx hb hr (by decide) (fun t ht hW => ⟨⟨_, (), rfl, rfl, by rw [ht]; exact hP, va_K.moved hW.alike hK, hD⟩, hS.F ht⟩) hS.2.2 d_HaulFlows_most_24
    · replace hR := (if_neg c11).symm.trans hR
      refine lv_lload_n hx hb d_HaulFlows_most_15 rfl (lv_at hl 2 rfl) ?_
      refine lv_ldc2 (v := 10000000) hx hb hown (hG _ m_286) d_HaulFlows_most_16 ?_
      refine hw_lcmp_le (tgt := 25) hx hb d_HaulFlows_most_19 d_HaulFlows_most_20 (by decide) (fun c19 => ?_) (fun c19 => ?_)
      · replace hR := (if_pos c19).symm.trans hR
        obtain ⟨hna1, hnb1⟩ := hbl3 c6
        have en25_1 : nI (x1.toNatClampNeg) = x1 := hw_nat hna1
        have hl : lv_has ls 4 [(0, .ref (aH 0)), (1, .int (nI x1.toNatClampNeg)), (2, .long x2)] := by rw [en25_1]; exact hl
        refine lv_aload_n hx hb d_HaulFlows_most_25 rfl (lv_at hl 0 rfl) ?_
        refine lv_iconst (v := nI 0) hx hb d_HaulFlows_most_26 (by decide) ?_
        refine va_put (D := (dC, dI)) (ci := 4) (v := .int (nI 0)) (ty := .int) (C := R_HaulFlows) (T := T_HaulFlows) (N := 5) hx hb hG in_HaulFlows ty_HaulFlows tok_HaulFlows nok_HaulFlows hown hK hP hD hS 0 rfl rfl 4 (by decide) (hG _ m_200) (fun _ h9 => h9) rfl (by decide +kernel) rfl rfl (Nat.le_of_ble_eq_true rfl) d_HaulFlows_most_27 (fun H locs hP hD hS => ?_)
        have hP : va_P (dC, dI) vwCl (w_H cI cJ cZ aH 0 aS aP aQ aT ++ w_S cI cJ cZ aS VS0 VS1 VS2 NS0 NS1 NS2 LS0 LS1 LS2 LS3 LS4 LS5 LS6 LS7 LS8 IS0 aY ++ w_Y cI cJ cZ aY VY0 LY0 LY1 LY2 IY0 ++ w_P cI cJ cZ aP VP0 VP1 VP2 NP0 LP0 LP1 LP2 LP3 LP4 IP0 IP1 aS ++ w_P cI cJ cZ aQ VQ0 VQ1 VQ2 NQ0 LQ0 LQ1 LQ2 LQ3 LQ4 IQ0 IQ1 aS ++ w_T cI cJ cZ aT VT0 NT0 NT1 LT0 IT0 aS) H := hP
        have hD : va_D A (w_H cI cJ cZ aH 0 aS aP aQ aT ++ w_S cI cJ cZ aS VS0 VS1 VS2 NS0 NS1 NS2 LS0 LS1 LS2 LS3 LS4 LS5 LS6 LS7 LS8 IS0 aY ++ w_Y cI cJ cZ aY VY0 LY0 LY1 LY2 IY0 ++ w_P cI cJ cZ aP VP0 VP1 VP2 NP0 LP0 LP1 LP2 LP3 LP4 IP0 IP1 aS ++ w_P cI cJ cZ aQ VQ0 VQ1 VQ2 NQ0 LQ0 LQ1 LQ2 LQ3 LQ4 IQ0 IQ1 aS ++ w_T cI cJ cZ aT VT0 NT0 NT1 LT0 IT0 aS) := hD
        refine lv_aload_n hx hb d_HaulFlows_most_30 rfl (lv_at hl 0 rfl) ?_
        refine va_get (D := (dC, dI)) (ci := 4) (v := .ref (aS 0)) (C := R_HaulFlows) (T := T_HaulFlows) (N := 5) hx hb hG in_HaulFlows hown hK hP 0 rfl rfl 0 (by decide) (hG _ m_196) (fun _ h9 => h9) rfl d_HaulFlows_most_31 ?_
        refine va_get (D := (dC, dI)) (ci := 2) (v := .ref (aS 13)) (C := R_Site) (T := T_Site) (N := 17) hx hb hG in_Site hown hK hP 1 rfl rfl 16 (by decide) (hG _ m_89) (fun _ h9 => h9) rfl d_HaulFlows_most_34 ?_
        refine lv_iload_n hx hb d_HaulFlows_most_37 rfl (lv_at hl 1 rfl) ?_
        refine lv_lload_n hx hb d_HaulFlows_most_38 rfl (lv_at hl 2 rfl) ?_
        refine hw_last (f := LS8) hx hb hK hP hD hS 14 1 rfl rfl (by decide) (by omega) d_HaulFlows_most_39 (fun H locs hP hD hS => ?_)
        have hP : va_P (dC, dI) vwCl (w_H cI cJ cZ aH 0 aS aP aQ aT ++ w_S cI cJ cZ aS VS0 VS1 VS2 NS0 NS1 NS2 LS0 LS1 LS2 LS3 LS4 LS5 LS6 LS7 (vp_updL LS8 x1.toNatClampNeg x2) IS0 aY ++ w_Y cI cJ cZ aY VY0 LY0 LY1 LY2 IY0 ++ w_P cI cJ cZ aP VP0 VP1 VP2 NP0 LP0 LP1 LP2 LP3 LP4 IP0 IP1 aS ++ w_P cI cJ cZ aQ VQ0 VQ1 VQ2 NQ0 LQ0 LQ1 LQ2 LQ3 LQ4 IQ0 IQ1 aS ++ w_T cI cJ cZ aT VT0 NT0 NT1 LT0 IT0 aS) H := hP
        have hD : va_D A (w_H cI cJ cZ aH 0 aS aP aQ aT ++ w_S cI cJ cZ aS VS0 VS1 VS2 NS0 NS1 NS2 LS0 LS1 LS2 LS3 LS4 LS5 LS6 LS7 (vp_updL LS8 x1.toNatClampNeg x2) IS0 aY ++ w_Y cI cJ cZ aY VY0 LY0 LY1 LY2 IY0 ++ w_P cI cJ cZ aP VP0 VP1 VP2 NP0 LP0 LP1 LP2 LP3 LP4 IP0 IP1 aS ++ w_P cI cJ cZ aQ VQ0 VQ1 VQ2 NQ0 LQ0 LQ1 LQ2 LQ3 LQ4 IQ0 IQ1 aS ++ w_T cI cJ cZ aT VT0 NT0 NT1 LT0 IT0 aS) := hD
        refine lv_iconst (v := nI 1) hx hb d_HaulFlows_most_40 (by decide) ?_
        subst hR
        exact W.zret (v := nI 1) hx hb hr (by decide) (fun t ht hW => ⟨⟨_, (), rfl, rfl, by rw [ht]; exact hP, va_K.moved hW.alike hK, hD⟩, hS.F ht⟩) hS.2.2 d_HaulFlows_most_41
      · replace hR := (if_neg c19).symm.trans hR
        refine lv_iconst (v := nI 0) hx hb d_HaulFlows_most_23 (by decide) ?_
        subst hR
        exact W.zret (v := nI 0) hx hb hr (by decide) (fun t ht hW => ⟨⟨_, (), rfl, rfl, by rw [ht]; exact hP, va_K.moved hW.alike hK, hD⟩, hS.F ht⟩) hS.2.2 d_HaulFlows_most_24
