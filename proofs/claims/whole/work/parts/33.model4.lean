abbrev b_Model_measure : ByteArray := prog_7_method_18_code
def y_Model_measure : MethodName := ⟨R_Model, "measure", "(I)V"⟩
def u_Model_measure : List Cond := Cond.code y_Model_measure b_Model_measure 5 none :: wG
theorem d_Model_measure_0 : decode b_Model_measure 0 = .ok (.iconst 0, 1) := by decide +kernel
theorem d_Model_measure_1 : decode b_Model_measure 1 = .ok (.istore_n 2, 1) := by decide +kernel
theorem d_Model_measure_2 : decode b_Model_measure 2 = .ok (.iload_n 2, 1) := by decide +kernel
theorem d_Model_measure_3 : decode b_Model_measure 3 = .ok (.bipush 34, 2) := by decide +kernel
theorem d_Model_measure_5 : decode b_Model_measure 5 = .ok (.if_icmp .ge 35, 3) := by decide +kernel
theorem d_Model_measure_8 : decode b_Model_measure 8 = .ok (.aload_n 0, 1) := by decide +kernel
theorem d_Model_measure_9 : decode b_Model_measure 9 = .ok (.getfield 75, 3) := by decide +kernel
theorem d_Model_measure_12 : decode b_Model_measure 12 = .ok (.iload_n 2, 1) := by decide +kernel
theorem d_Model_measure_13 : decode b_Model_measure 13 = .ok (.iload_n 2, 1) := by decide +kernel
theorem d_Model_measure_14 : decode b_Model_measure 14 = .ok (.iload_n 1, 1) := by decide +kernel
theorem d_Model_measure_15 : decode b_Model_measure 15 = .ok (.if_icmp .ne 7, 3) := by decide +kernel
theorem d_Model_measure_18 : decode b_Model_measure 18 = .ok (.lconst 0, 1) := by decide +kernel
theorem d_Model_measure_19 : decode b_Model_measure 19 = .ok (.goto 6, 3) := by decide +kernel
theorem d_Model_measure_22 : decode b_Model_measure 22 = .ok (.ldc2_w 137, 3) := by decide +kernel
theorem d_Model_measure_25 : decode b_Model_measure 25 = .ok (.lastore, 1) := by decide +kernel
theorem d_Model_measure_26 : decode b_Model_measure 26 = .ok (.aload_n 0, 1) := by decide +kernel
theorem d_Model_measure_27 : decode b_Model_measure 27 = .ok (.getfield 78, 3) := by decide +kernel
theorem d_Model_measure_30 : decode b_Model_measure 30 = .ok (.iload_n 2, 1) := by decide +kernel
theorem d_Model_measure_31 : decode b_Model_measure 31 = .ok (.bipush (-2), 2) := by decide +kernel
theorem d_Model_measure_33 : decode b_Model_measure 33 = .ok (.iastore, 1) := by decide +kernel
theorem d_Model_measure_34 : decode b_Model_measure 34 = .ok (.iinc 2 1, 3) := by decide +kernel
theorem d_Model_measure_37 : decode b_Model_measure 37 = .ok (.goto (-35), 3) := by decide +kernel
theorem d_Model_measure_40 : decode b_Model_measure 40 = .ok (.iconst 1, 1) := by decide +kernel
theorem d_Model_measure_41 : decode b_Model_measure 41 = .ok (.istore_n 2, 1) := by decide +kernel
theorem d_Model_measure_42 : decode b_Model_measure 42 = .ok (.iload_n 2, 1) := by decide +kernel
theorem d_Model_measure_43 : decode b_Model_measure 43 = .ok (.ifCond .eq 134, 3) := by decide +kernel
theorem d_Model_measure_46 : decode b_Model_measure 46 = .ok (.iconst 0, 1) := by decide +kernel
theorem d_Model_measure_47 : decode b_Model_measure 47 = .ok (.istore_n 2, 1) := by decide +kernel
theorem d_Model_measure_48 : decode b_Model_measure 48 = .ok (.iconst 0, 1) := by decide +kernel
theorem d_Model_measure_49 : decode b_Model_measure 49 = .ok (.istore_n 3, 1) := by decide +kernel
theorem d_Model_measure_50 : decode b_Model_measure 50 = .ok (.iload_n 3, 1) := by decide +kernel
theorem d_Model_measure_51 : decode b_Model_measure 51 = .ok (.bipush 34, 2) := by decide +kernel
theorem d_Model_measure_53 : decode b_Model_measure 53 = .ok (.if_icmp .ge 121, 3) := by decide +kernel
theorem d_Model_measure_56 : decode b_Model_measure 56 = .ok (.iconst 0, 1) := by decide +kernel
theorem d_Model_measure_57 : decode b_Model_measure 57 = .ok (.istore 4, 2) := by decide +kernel
theorem d_Model_measure_59 : decode b_Model_measure 59 = .ok (.iload 4, 2) := by decide +kernel
theorem d_Model_measure_61 : decode b_Model_measure 61 = .ok (.bipush 34, 2) := by decide +kernel
theorem d_Model_measure_63 : decode b_Model_measure 63 = .ok (.if_icmp .ge 105, 3) := by decide +kernel
theorem d_Model_measure_66 : decode b_Model_measure 66 = .ok (.aload_n 0, 1) := by decide +kernel
theorem d_Model_measure_67 : decode b_Model_measure 67 = .ok (.getfield 75, 3) := by decide +kernel
theorem d_Model_measure_70 : decode b_Model_measure 70 = .ok (.iload_n 3, 1) := by decide +kernel
theorem d_Model_measure_71 : decode b_Model_measure 71 = .ok (.laload, 1) := by decide +kernel
theorem d_Model_measure_72 : decode b_Model_measure 72 = .ok (.ldc2_w 137, 3) := by decide +kernel
theorem d_Model_measure_75 : decode b_Model_measure 75 = .ok (.lcmp, 1) := by decide +kernel
theorem d_Model_measure_76 : decode b_Model_measure 76 = .ok (.ifCond .ge 92, 3) := by decide +kernel
theorem d_Model_measure_79 : decode b_Model_measure 79 = .ok (.aload_n 0, 1) := by decide +kernel
theorem d_Model_measure_80 : decode b_Model_measure 80 = .ok (.getfield 69, 3) := by decide +kernel
theorem d_Model_measure_83 : decode b_Model_measure 83 = .ok (.bipush 34, 2) := by decide +kernel
theorem d_Model_measure_85 : decode b_Model_measure 85 = .ok (.iload_n 3, 1) := by decide +kernel
theorem d_Model_measure_86 : decode b_Model_measure 86 = .ok (.imul, 1) := by decide +kernel
theorem d_Model_measure_87 : decode b_Model_measure 87 = .ok (.iload 4, 2) := by decide +kernel
theorem d_Model_measure_89 : decode b_Model_measure 89 = .ok (.iadd, 1) := by decide +kernel
theorem d_Model_measure_90 : decode b_Model_measure 90 = .ok (.laload, 1) := by decide +kernel
theorem d_Model_measure_91 : decode b_Model_measure 91 = .ok (.lconst 0, 1) := by decide +kernel
theorem d_Model_measure_92 : decode b_Model_measure 92 = .ok (.lcmp, 1) := by decide +kernel
theorem d_Model_measure_93 : decode b_Model_measure 93 = .ok (.ifCond .le 69, 3) := by decide +kernel
theorem d_Model_measure_96 : decode b_Model_measure 96 = .ok (.aload_n 0, 1) := by decide +kernel
theorem d_Model_measure_97 : decode b_Model_measure 97 = .ok (.getfield 75, 3) := by decide +kernel
theorem d_Model_measure_100 : decode b_Model_measure 100 = .ok (.iload_n 3, 1) := by decide +kernel
theorem d_Model_measure_101 : decode b_Model_measure 101 = .ok (.laload, 1) := by decide +kernel
theorem d_Model_measure_102 : decode b_Model_measure 102 = .ok (.aload_n 0, 1) := by decide +kernel
theorem d_Model_measure_103 : decode b_Model_measure 103 = .ok (.getfield 72, 3) := by decide +kernel
theorem d_Model_measure_106 : decode b_Model_measure 106 = .ok (.bipush 34, 2) := by decide +kernel
theorem d_Model_measure_108 : decode b_Model_measure 108 = .ok (.iload_n 3, 1) := by decide +kernel
theorem d_Model_measure_109 : decode b_Model_measure 109 = .ok (.imul, 1) := by decide +kernel
theorem d_Model_measure_110 : decode b_Model_measure 110 = .ok (.iload 4, 2) := by decide +kernel
theorem d_Model_measure_112 : decode b_Model_measure 112 = .ok (.iadd, 1) := by decide +kernel
theorem d_Model_measure_113 : decode b_Model_measure 113 = .ok (.laload, 1) := by decide +kernel
theorem d_Model_measure_114 : decode b_Model_measure 114 = .ok (.ladd, 1) := by decide +kernel
theorem d_Model_measure_115 : decode b_Model_measure 115 = .ok (.aload_n 0, 1) := by decide +kernel
theorem d_Model_measure_116 : decode b_Model_measure 116 = .ok (.getfield 75, 3) := by decide +kernel
theorem d_Model_measure_119 : decode b_Model_measure 119 = .ok (.iload 4, 2) := by decide +kernel
theorem d_Model_measure_121 : decode b_Model_measure 121 = .ok (.laload, 1) := by decide +kernel
theorem d_Model_measure_122 : decode b_Model_measure 122 = .ok (.lcmp, 1) := by decide +kernel
theorem d_Model_measure_123 : decode b_Model_measure 123 = .ok (.ifCond .ge 39, 3) := by decide +kernel
theorem d_Model_measure_126 : decode b_Model_measure 126 = .ok (.aload_n 0, 1) := by decide +kernel
theorem d_Model_measure_127 : decode b_Model_measure 127 = .ok (.getfield 75, 3) := by decide +kernel
theorem d_Model_measure_130 : decode b_Model_measure 130 = .ok (.iload 4, 2) := by decide +kernel
theorem d_Model_measure_132 : decode b_Model_measure 132 = .ok (.aload_n 0, 1) := by decide +kernel
theorem d_Model_measure_133 : decode b_Model_measure 133 = .ok (.getfield 75, 3) := by decide +kernel
theorem d_Model_measure_136 : decode b_Model_measure 136 = .ok (.iload_n 3, 1) := by decide +kernel
theorem d_Model_measure_137 : decode b_Model_measure 137 = .ok (.laload, 1) := by decide +kernel
theorem d_Model_measure_138 : decode b_Model_measure 138 = .ok (.aload_n 0, 1) := by decide +kernel
theorem d_Model_measure_139 : decode b_Model_measure 139 = .ok (.getfield 72, 3) := by decide +kernel
theorem d_Model_measure_142 : decode b_Model_measure 142 = .ok (.bipush 34, 2) := by decide +kernel
theorem d_Model_measure_144 : decode b_Model_measure 144 = .ok (.iload_n 3, 1) := by decide +kernel
theorem d_Model_measure_145 : decode b_Model_measure 145 = .ok (.imul, 1) := by decide +kernel
theorem d_Model_measure_146 : decode b_Model_measure 146 = .ok (.iload 4, 2) := by decide +kernel
theorem d_Model_measure_148 : decode b_Model_measure 148 = .ok (.iadd, 1) := by decide +kernel
theorem d_Model_measure_149 : decode b_Model_measure 149 = .ok (.laload, 1) := by decide +kernel
theorem d_Model_measure_150 : decode b_Model_measure 150 = .ok (.ladd, 1) := by decide +kernel
theorem d_Model_measure_151 : decode b_Model_measure 151 = .ok (.lastore, 1) := by decide +kernel
theorem d_Model_measure_152 : decode b_Model_measure 152 = .ok (.aload_n 0, 1) := by decide +kernel
theorem d_Model_measure_153 : decode b_Model_measure 153 = .ok (.getfield 78, 3) := by decide +kernel
theorem d_Model_measure_156 : decode b_Model_measure 156 = .ok (.iload 4, 2) := by decide +kernel
theorem d_Model_measure_158 : decode b_Model_measure 158 = .ok (.iload_n 3, 1) := by decide +kernel
theorem d_Model_measure_159 : decode b_Model_measure 159 = .ok (.iastore, 1) := by decide +kernel
theorem d_Model_measure_160 : decode b_Model_measure 160 = .ok (.iconst 1, 1) := by decide +kernel
theorem d_Model_measure_161 : decode b_Model_measure 161 = .ok (.istore_n 2, 1) := by decide +kernel
theorem d_Model_measure_162 : decode b_Model_measure 162 = .ok (.iinc 4 1, 3) := by decide +kernel
theorem d_Model_measure_165 : decode b_Model_measure 165 = .ok (.goto (-106), 3) := by decide +kernel
theorem d_Model_measure_168 : decode b_Model_measure 168 = .ok (.iinc 3 1, 3) := by decide +kernel
theorem d_Model_measure_171 : decode b_Model_measure 171 = .ok (.goto (-121), 3) := by decide +kernel
theorem d_Model_measure_174 : decode b_Model_measure 174 = .ok (.goto (-132), 3) := by decide +kernel
theorem d_Model_measure_177 : decode b_Model_measure 177 = .ok (.return_, 1) := by decide +kernel
abbrev b_Model_send : ByteArray := prog_7_method_19_code
def y_Model_send : MethodName := ⟨R_Model, "send", "(II)J"⟩
def u_Model_send : List Cond := Cond.code y_Model_send b_Model_send 8 (some .long) :: wG
theorem d_Model_send_0 : decode b_Model_send 0 = .ok (.ldc2_w 81, 3) := by decide +kernel
theorem d_Model_send_3 : decode b_Model_send 3 = .ok (.lstore_n 3, 1) := by decide +kernel
theorem d_Model_send_4 : decode b_Model_send 4 = .ok (.iload_n 2, 1) := by decide +kernel
theorem d_Model_send_5 : decode b_Model_send 5 = .ok (.istore 5, 2) := by decide +kernel
theorem d_Model_send_7 : decode b_Model_send 7 = .ok (.iload 5, 2) := by decide +kernel
theorem d_Model_send_9 : decode b_Model_send 9 = .ok (.iload_n 1, 1) := by decide +kernel
theorem d_Model_send_10 : decode b_Model_send 10 = .ok (.if_icmp .eq 49, 3) := by decide +kernel
theorem d_Model_send_13 : decode b_Model_send 13 = .ok (.aload_n 0, 1) := by decide +kernel
theorem d_Model_send_14 : decode b_Model_send 14 = .ok (.getfield 69, 3) := by decide +kernel
theorem d_Model_send_17 : decode b_Model_send 17 = .ok (.bipush 34, 2) := by decide +kernel
theorem d_Model_send_19 : decode b_Model_send 19 = .ok (.aload_n 0, 1) := by decide +kernel
theorem d_Model_send_20 : decode b_Model_send 20 = .ok (.getfield 78, 3) := by decide +kernel
theorem d_Model_send_23 : decode b_Model_send 23 = .ok (.iload 5, 2) := by decide +kernel
theorem d_Model_send_25 : decode b_Model_send 25 = .ok (.iaload, 1) := by decide +kernel
theorem d_Model_send_26 : decode b_Model_send 26 = .ok (.imul, 1) := by decide +kernel
theorem d_Model_send_27 : decode b_Model_send 27 = .ok (.iload 5, 2) := by decide +kernel
theorem d_Model_send_29 : decode b_Model_send 29 = .ok (.iadd, 1) := by decide +kernel
theorem d_Model_send_30 : decode b_Model_send 30 = .ok (.laload, 1) := by decide +kernel
theorem d_Model_send_31 : decode b_Model_send 31 = .ok (.lstore 6, 2) := by decide +kernel
theorem d_Model_send_33 : decode b_Model_send 33 = .ok (.lload 6, 2) := by decide +kernel
theorem d_Model_send_35 : decode b_Model_send 35 = .ok (.lload_n 3, 1) := by decide +kernel
theorem d_Model_send_36 : decode b_Model_send 36 = .ok (.lcmp, 1) := by decide +kernel
theorem d_Model_send_37 : decode b_Model_send 37 = .ok (.ifCond .ge 8, 3) := by decide +kernel
theorem d_Model_send_40 : decode b_Model_send 40 = .ok (.lload 6, 2) := by decide +kernel
theorem d_Model_send_42 : decode b_Model_send 42 = .ok (.goto 4, 3) := by decide +kernel
theorem d_Model_send_45 : decode b_Model_send 45 = .ok (.lload_n 3, 1) := by decide +kernel
theorem d_Model_send_46 : decode b_Model_send 46 = .ok (.lstore_n 3, 1) := by decide +kernel
theorem d_Model_send_47 : decode b_Model_send 47 = .ok (.aload_n 0, 1) := by decide +kernel
theorem d_Model_send_48 : decode b_Model_send 48 = .ok (.getfield 78, 3) := by decide +kernel
theorem d_Model_send_51 : decode b_Model_send 51 = .ok (.iload 5, 2) := by decide +kernel
theorem d_Model_send_53 : decode b_Model_send 53 = .ok (.iaload, 1) := by decide +kernel
theorem d_Model_send_54 : decode b_Model_send 54 = .ok (.istore 5, 2) := by decide +kernel
theorem d_Model_send_56 : decode b_Model_send 56 = .ok (.goto (-49), 3) := by decide +kernel
theorem d_Model_send_59 : decode b_Model_send 59 = .ok (.iload_n 2, 1) := by decide +kernel
theorem d_Model_send_60 : decode b_Model_send 60 = .ok (.istore 5, 2) := by decide +kernel
theorem d_Model_send_62 : decode b_Model_send 62 = .ok (.iload 5, 2) := by decide +kernel
theorem d_Model_send_64 : decode b_Model_send 64 = .ok (.iload_n 1, 1) := by decide +kernel
theorem d_Model_send_65 : decode b_Model_send 65 = .ok (.if_icmp .eq 59, 3) := by decide +kernel
theorem d_Model_send_68 : decode b_Model_send 68 = .ok (.aload_n 0, 1) := by decide +kernel
theorem d_Model_send_69 : decode b_Model_send 69 = .ok (.getfield 69, 3) := by decide +kernel
theorem d_Model_send_72 : decode b_Model_send 72 = .ok (.bipush 34, 2) := by decide +kernel
theorem d_Model_send_74 : decode b_Model_send 74 = .ok (.aload_n 0, 1) := by decide +kernel
theorem d_Model_send_75 : decode b_Model_send 75 = .ok (.getfield 78, 3) := by decide +kernel
theorem d_Model_send_78 : decode b_Model_send 78 = .ok (.iload 5, 2) := by decide +kernel
theorem d_Model_send_80 : decode b_Model_send 80 = .ok (.iaload, 1) := by decide +kernel
theorem d_Model_send_81 : decode b_Model_send 81 = .ok (.imul, 1) := by decide +kernel
theorem d_Model_send_82 : decode b_Model_send 82 = .ok (.iload 5, 2) := by decide +kernel
theorem d_Model_send_84 : decode b_Model_send 84 = .ok (.iadd, 1) := by decide +kernel
theorem d_Model_send_85 : decode b_Model_send 85 = .ok (.dup2, 1) := by decide +kernel
theorem d_Model_send_86 : decode b_Model_send 86 = .ok (.laload, 1) := by decide +kernel
theorem d_Model_send_87 : decode b_Model_send 87 = .ok (.lload_n 3, 1) := by decide +kernel
theorem d_Model_send_88 : decode b_Model_send 88 = .ok (.lsub, 1) := by decide +kernel
theorem d_Model_send_89 : decode b_Model_send 89 = .ok (.lastore, 1) := by decide +kernel
theorem d_Model_send_90 : decode b_Model_send 90 = .ok (.aload_n 0, 1) := by decide +kernel
theorem d_Model_send_91 : decode b_Model_send 91 = .ok (.getfield 69, 3) := by decide +kernel
theorem d_Model_send_94 : decode b_Model_send 94 = .ok (.bipush 34, 2) := by decide +kernel
theorem d_Model_send_96 : decode b_Model_send 96 = .ok (.iload 5, 2) := by decide +kernel
theorem d_Model_send_98 : decode b_Model_send 98 = .ok (.imul, 1) := by decide +kernel
theorem d_Model_send_99 : decode b_Model_send 99 = .ok (.aload_n 0, 1) := by decide +kernel
theorem d_Model_send_100 : decode b_Model_send 100 = .ok (.getfield 78, 3) := by decide +kernel
theorem d_Model_send_103 : decode b_Model_send 103 = .ok (.iload 5, 2) := by decide +kernel
theorem d_Model_send_105 : decode b_Model_send 105 = .ok (.iaload, 1) := by decide +kernel
theorem d_Model_send_106 : decode b_Model_send 106 = .ok (.iadd, 1) := by decide +kernel
theorem d_Model_send_107 : decode b_Model_send 107 = .ok (.dup2, 1) := by decide +kernel
theorem d_Model_send_108 : decode b_Model_send 108 = .ok (.laload, 1) := by decide +kernel
theorem d_Model_send_109 : decode b_Model_send 109 = .ok (.lload_n 3, 1) := by decide +kernel
theorem d_Model_send_110 : decode b_Model_send 110 = .ok (.ladd, 1) := by decide +kernel
theorem d_Model_send_111 : decode b_Model_send 111 = .ok (.lastore, 1) := by decide +kernel
theorem d_Model_send_112 : decode b_Model_send 112 = .ok (.aload_n 0, 1) := by decide +kernel
theorem d_Model_send_113 : decode b_Model_send 113 = .ok (.getfield 78, 3) := by decide +kernel
theorem d_Model_send_116 : decode b_Model_send 116 = .ok (.iload 5, 2) := by decide +kernel
theorem d_Model_send_118 : decode b_Model_send 118 = .ok (.iaload, 1) := by decide +kernel
theorem d_Model_send_119 : decode b_Model_send 119 = .ok (.istore 5, 2) := by decide +kernel
theorem d_Model_send_121 : decode b_Model_send 121 = .ok (.goto (-59), 3) := by decide +kernel
theorem d_Model_send_124 : decode b_Model_send 124 = .ok (.lload_n 3, 1) := by decide +kernel
theorem d_Model_send_125 : decode b_Model_send 125 = .ok (.lreturn, 1) := by decide +kernel
def f_Model_measure_h59B (x3_50 : Nat) (LM13 : Nat → Int64) (LM14 : Nat → Int64) (k_59 : (Nat) → (Nat) → (Nat → Int64) → (Nat → Int32) → (Nat → Int64) × (Nat → Int32)) (rec_59 : (Nat) → (Nat) → (Nat → Int64) → (Nat → Int32) → (Nat → Int64) × (Nat → Int32)) (x2_59 : Nat) (x4_59 : Nat) (LM15_59 : Nat → Int64) (IM3_59 : Nat → Int32) : (Nat → Int64) × (Nat → Int32) :=
  if 34 ≤ x4_59 then (k_59 x2_59 x4_59 LM15_59 IM3_59) else (if 4000000000000000 ≤ (LM15_59 x3_50) then (k_59 x2_59 x4_59 LM15_59 IM3_59) else (if (LM13 ((34 * x3_50) + x4_59)) ≤ 0 then (rec_59 x2_59 (x4_59 + 1) LM15_59 IM3_59) else (if (LM15_59 x4_59) ≤ ((LM15_59 x3_50) + (LM14 ((34 * x3_50) + x4_59))) then (rec_59 x2_59 (x4_59 + 1) LM15_59 IM3_59) else (rec_59 1 (x4_59 + 1) (vp_updL LM15_59 x4_59 ((LM15_59 x3_50) + (LM14 ((34 * x3_50) + x4_59)))) (upd IM3_59 x4_59 (nI x3_50))))))
def f_Model_measure_h59 (x3_50 : Nat) (LM13 : Nat → Int64) (LM14 : Nat → Int64) (k_59 : (Nat) → (Nat) → (Nat → Int64) → (Nat → Int32) → (Nat → Int64) × (Nat → Int32)) : Nat → (Nat) → (Nat) → (Nat → Int64) → (Nat → Int32) → (Nat → Int64) × (Nat → Int32)
  | 0, x2_59, x4_59, LM15_59, IM3_59 => k_59 x2_59 x4_59 LM15_59 IM3_59
  | n + 1, x2_59, x4_59, LM15_59, IM3_59 => f_Model_measure_h59B x3_50 LM13 LM14 k_59 (fun x2_59 x4_59 LM15_59 IM3_59 => f_Model_measure_h59 x3_50 LM13 LM14 k_59 n x2_59 x4_59 LM15_59 IM3_59) x2_59 x4_59 LM15_59 IM3_59
def f_Model_measure_x59 (rec_50 : (Nat) → (Nat) → (Nat → Int64) → (Nat → Int32) → (Nat → Int64) × (Nat → Int32)) (x3_50 : Nat) (x2_59 : Nat) (x4_59 : Nat) (LM15_59 : Nat → Int64) (IM3_59 : Nat → Int32) : (Nat → Int64) × (Nat → Int32) :=
  rec_50 x2_59 (x3_50 + 1) LM15_59 IM3_59
def f_Model_measure_h50B (LM13 : Nat → Int64) (LM14 : Nat → Int64) (k_50 : (Nat) → (Nat) → (Nat → Int64) → (Nat → Int32) → (Nat → Int64) × (Nat → Int32)) (rec_50 : (Nat) → (Nat) → (Nat → Int64) → (Nat → Int32) → (Nat → Int64) × (Nat → Int32)) (x2_50 : Nat) (x3_50 : Nat) (LM15_50 : Nat → Int64) (IM3_50 : Nat → Int32) : (Nat → Int64) × (Nat → Int32) :=
  if 34 ≤ x3_50 then (k_50 x2_50 x3_50 LM15_50 IM3_50) else (f_Model_measure_h59 x3_50 LM13 LM14 (f_Model_measure_x59 rec_50 x3_50) 35 x2_50 0 LM15_50 IM3_50)
def f_Model_measure_h50 (LM13 : Nat → Int64) (LM14 : Nat → Int64) (k_50 : (Nat) → (Nat) → (Nat → Int64) → (Nat → Int32) → (Nat → Int64) × (Nat → Int32)) : Nat → (Nat) → (Nat) → (Nat → Int64) → (Nat → Int32) → (Nat → Int64) × (Nat → Int32)
  | 0, x2_50, x3_50, LM15_50, IM3_50 => k_50 x2_50 x3_50 LM15_50 IM3_50
  | n + 1, x2_50, x3_50, LM15_50, IM3_50 => f_Model_measure_h50B LM13 LM14 k_50 (fun x2_50 x3_50 LM15_50 IM3_50 => f_Model_measure_h50 LM13 LM14 k_50 n x2_50 x3_50 LM15_50 IM3_50) x2_50 x3_50 LM15_50 IM3_50
def f_Model_measure_x50 (rec_42 : (Nat) → (Nat → Int64) → (Nat → Int32) → (Nat → Int64) × (Nat → Int32)) (x2_50 : Nat) (x3_50 : Nat) (LM15_50 : Nat → Int64) (IM3_50 : Nat → Int32) : (Nat → Int64) × (Nat → Int32) :=
  rec_42 x2_50 LM15_50 IM3_50
def f_Model_measure_h42B (LM13 : Nat → Int64) (LM14 : Nat → Int64) (k_42 : (Nat) → (Nat → Int64) → (Nat → Int32) → (Nat → Int64) × (Nat → Int32)) (rec_42 : (Nat) → (Nat → Int64) → (Nat → Int32) → (Nat → Int64) × (Nat → Int32)) (x2_42 : Nat) (LM15_42 : Nat → Int64) (IM3_42 : Nat → Int32) : (Nat → Int64) × (Nat → Int32) :=
  if x2_42 = 0 then (k_42 x2_42 LM15_42 IM3_42) else (f_Model_measure_h50 LM13 LM14 (f_Model_measure_x50 rec_42) 35 0 0 LM15_42 IM3_42)
def f_Model_measure_h42 (LM13 : Nat → Int64) (LM14 : Nat → Int64) (k_42 : (Nat) → (Nat → Int64) → (Nat → Int32) → (Nat → Int64) × (Nat → Int32)) : Nat → (Nat) → (Nat → Int64) → (Nat → Int32) → (Nat → Int64) × (Nat → Int32)
  | 0, x2_42, LM15_42, IM3_42 => k_42 x2_42 LM15_42 IM3_42
  | n + 1, x2_42, LM15_42, IM3_42 => f_Model_measure_h42B LM13 LM14 k_42 (fun x2_42 LM15_42 IM3_42 => f_Model_measure_h42 LM13 LM14 k_42 n x2_42 LM15_42 IM3_42) x2_42 LM15_42 IM3_42
def f_Model_measure_x42  (x2_42 : Nat) (LM15_42 : Nat → Int64) (IM3_42 : Nat → Int32) : (Nat → Int64) × (Nat → Int32) :=
  (LM15_42, IM3_42)
def f_Model_measure_h2B (x1 : Nat) (k_2 : (Nat) → (Nat → Int64) → (Nat → Int32) → (Nat → Int64) × (Nat → Int32)) (rec_2 : (Nat) → (Nat → Int64) → (Nat → Int32) → (Nat → Int64) × (Nat → Int32)) (x2_2 : Nat) (LM15_2 : Nat → Int64) (IM3_2 : Nat → Int32) : (Nat → Int64) × (Nat → Int32) :=
  if 34 ≤ x2_2 then (k_2 x2_2 LM15_2 IM3_2) else (if x2_2 = x1 then (rec_2 (x2_2 + 1) (vp_updL LM15_2 x2_2 0) (upd IM3_2 x2_2 (-2))) else (rec_2 (x2_2 + 1) (vp_updL LM15_2 x2_2 4000000000000000) (upd IM3_2 x2_2 (-2))))
def f_Model_measure_h2 (x1 : Nat) (k_2 : (Nat) → (Nat → Int64) → (Nat → Int32) → (Nat → Int64) × (Nat → Int32)) : Nat → (Nat) → (Nat → Int64) → (Nat → Int32) → (Nat → Int64) × (Nat → Int32)
  | 0, x2_2, LM15_2, IM3_2 => k_2 x2_2 LM15_2 IM3_2
  | n + 1, x2_2, LM15_2, IM3_2 => f_Model_measure_h2B x1 k_2 (fun x2_2 LM15_2 IM3_2 => f_Model_measure_h2 x1 k_2 n x2_2 LM15_2 IM3_2) x2_2 LM15_2 IM3_2
def f_Model_measure_x2 (LM13 : Nat → Int64) (LM14 : Nat → Int64) (x2_2 : Nat) (LM15_2 : Nat → Int64) (IM3_2 : Nat → Int32) : (Nat → Int64) × (Nat → Int32) :=
  f_Model_measure_h42 LM13 LM14 f_Model_measure_x42 1000000000000000000000000000000 1 LM15_2 IM3_2
def f_Model_measure (LM13 : Nat → Int64) (LM14 : Nat → Int64) (LM15 : Nat → Int64) (IM3 : Nat → Int32) (x1 : Nat) : (Nat → Int64) × (Nat → Int32) :=
  f_Model_measure_h2 x1 (f_Model_measure_x2 LM13 LM14) 35 0 LM15 IM3
set_option maxHeartbeats 4000000 in
set_option maxRecDepth 100000 in
theorem c_Model_measure (l : Launch) (dC : Nat → ClassId) (dI : Nat → Nat → Nat) (cI cJ cZ : ClassId) (sz : Nat) (aM : Nat → Nat) (VM0 : Nat) (VM1 : Nat) (VM2 : Nat) (VM3 : Nat) (VM4 : Nat) (VM5 : Nat) (WM0 : Int64) (NM0 : Nat → Nat) (NM1 : Nat → Nat) (NM2 : Nat → Nat) (LM0 : Nat → Int64) (LM1 : Nat → Int64) (LM2 : Nat → Int64) (LM3 : Nat → Int64) (LM4 : Nat → Int64) (LM5 : Nat → Int64) (LM6 : Nat → Int64) (LM7 : Nat → Int64) (LM8 : Nat → Int64) (LM9 : Nat → Int64) (LM10 : Nat → Int64) (LM11 : Nat → Int64) (LM12 : Nat → Int64) (LM13 : Nat → Int64) (LM14 : Nat → Int64) (LM15 : Nat → Int64) (IM0 : Nat → Int32) (IM1 : Nat → Int32) (IM2 : Nat → Int32) (IM3 : Nat → Int32) (x1 : Nat) (hx1 : x1 < 34) (mu : (Nat → Int64) → Nat) (Iv : (Nat → Int64) → (Nat → Int32) → Prop) (hrx : ∀ (far : Nat → Int64) (bef : Nat → Int32) (a b : Nat), Iv far bef → a < 34 → b < 34 → ¬ 4000000000000000 ≤ far a → ¬ LM13 (34 * a + b) ≤ 0 → ¬ far b ≤ far a + LM14 (34 * a + b) → Iv (vp_updL far b (far a + LM14 (34 * a + b))) (upd bef b (nI a)) ∧ mu (vp_updL far b (far a + LM14 (34 * a + b))) < mu far) (hi0 : ∀ (far : Nat → Int64) (bef : Nat → Int32), (∀ v, v < 34 → far v = (fun v => if v = x1 then (0 : Int64) else 4000000000000000) v) → (∀ v, v < 34 → bef v = (fun _ => (-2 : Int32)) v) → Iv far bef ∧ mu far + 1 < 1000000000000000000000000000000) : hh_Cv l y_Model_measure u_Model_measure ({ frames := 0, cells := 0, slots := 0, locals := 0 }) (dC, dI) vwCl [(cI, .int), (cJ, .long), (cZ, .boolean)] (w_M cI cJ cZ aM VM0 VM1 VM2 VM3 VM4 VM5 WM0 NM0 NM1 NM2 LM0 LM1 LM2 LM3 LM4 LM5 LM6 LM7 LM8 LM9 LM10 LM11 LM12 LM13 LM14 LM15 IM0 IM1 IM2 IM3) sz [.ref (aM 0), .int (nI x1)] (w_M cI cJ cZ aM VM0 VM1 VM2 VM3 VM4 VM5 WM0 NM0 NM1 NM2 LM0 LM1 LM2 LM3 LM4 LM5 LM6 LM7 LM8 LM9 LM10 LM11 LM12 LM13 LM14 ((f_Model_measure LM13 LM14 LM15 IM3 x1).1) IM0 IM1 IM2 ((f_Model_measure LM13 LM14 LM15 IM3 x1).2)) 0 0 := by
  unfold hh_Cv
  refine Met.ofW (cc := b_Model_measure) (maxL := 5) (ret := none) (by decide) rfl ?_
  intro p e s m args below meth c s₁ B hml hv
  obtain ⟨rfl, hsz, hP, hK, hD0⟩ := hv
  have hx := B.exec
  have hb := B.bytes
  have hr := B.returns
  have hts := atoms_spec (ws := u_Model_measure) B.pre
  have hG : ∀ w ∈ wG, w.before ([.ref (aM 0), .int (nI x1)]).toArray s = true := fun w h => hts w (List.mem_cons_of_mem _ h)
  have hown : s.vm.findClass R_Model = some m.cls := findClass_of_methodNamed B.named
  have hlocks := B.notSynchronized
  subst hsz
  have hD := hD0.self (sz := s.heap.size)
  generalize hAe : va_A (w_M cI cJ cZ aM VM0 VM1 VM2 VM3 VM4 VM5 WM0 NM0 NM1 NM2 LM0 LM1 LM2 LM3 LM4 LM5 LM6 LM7 LM8 LM9 LM10 LM11 LM12 LM13 LM14 LM15 IM0 IM1 IM2 IM3) s.heap.size = A at hD ⊢
  have hA : ∀ q : Nat, s.heap.size ≤ q → A q := fun q h => by rw [← hAe]; exact Or.inr h
  have hS : va_S A s.heap s.heap [] := va_S.rf
  have hl := lv_entry ([.ref (aM 0), .int (nI x1)]) (n := 5) (Nat.le_of_ble_eq_true rfl)
  rw [lg_entry_eq]
  generalize (lg_sl ([.ref (aM 0), .int (nI x1)]) ++ List.replicate (5 - (lg_sl ([.ref (aM 0), .int (nI x1)])).length) Slot.unset).toArray = ls at hl ⊢
  have hl : lv_has ls 5 [(0, .ref (aM 0)), (1, .int (nI x1))] := hl
  generalize hR : f_Model_measure LM13 LM14 LM15 IM3 x1 = r0
  obtain ⟨H, locs, hHe, hle⟩ : ∃ (H : Heap) (locs : List Loc), s.heap = H ∧ [] = locs := ⟨_, _, rfl, rfl⟩
  have hP : va_P (dC, dI) vwCl (w_M cI cJ cZ aM VM0 VM1 VM2 VM3 VM4 VM5 WM0 NM0 NM1 NM2 LM0 LM1 LM2 LM3 LM4 LM5 LM6 LM7 LM8 LM9 LM10 LM11 LM12 LM13 LM14 LM15 IM0 IM1 IM2 IM3) H := by rw [← hHe]; exact hP
  have hS : va_S A s.heap H locs := by rw [← hHe, ← hle]; exact hS
  refine hw_start hHe hle ?_
  unfold f_Model_measure at hR
  refine lv_iconst (v := nI 0) hx hb d_Model_measure_0 (by decide) ?_
  refine lv_istore_n (lv' := [(2, .int (nI 0)), (0, .ref (aM 0)), (1, .int (nI x1))]) hx hb d_Model_measure_1 rfl hl (by decide) rfl (fun ls hl => ?_)
  obtain ⟨k_2, hk_2, hR⟩ : ∃ k, (f_Model_measure_x2 LM13 LM14) = k ∧ f_Model_measure_h2 x1 k 35 0 LM15 IM3 = r0 := ⟨_, rfl, hR⟩
  have X_2 : ∀ (x2_2 : Nat) (LM15_2 : Nat → Int64) (IM3_2 : Nat → Int32) (hi : x2_2 ≤ 34) (hfar : ∀ v, v < x2_2 → LM15_2 v = (fun v => if v = x1 then (0 : Int64) else 4000000000000000) v) (hbef : ∀ v, v < x2_2 → IM3_2 v = (fun _ => (-2 : Int32)) v) (hx34 : 34 ≤ x2_2) (H : Heap) (locs : List Loc) (hP : va_P (dC, dI) vwCl (w_M cI cJ cZ aM VM0 VM1 VM2 VM3 VM4 VM5 WM0 NM0 NM1 NM2 LM0 LM1 LM2 LM3 LM4 LM5 LM6 LM7 LM8 LM9 LM10 LM11 LM12 LM13 LM14 LM15_2 IM0 IM1 IM2 IM3_2) H) (hD : va_D A (w_M cI cJ cZ aM VM0 VM1 VM2 VM3 VM4 VM5 WM0 NM0 NM1 NM2 LM0 LM1 LM2 LM3 LM4 LM5 LM6 LM7 LM8 LM9 LM10 LM11 LM12 LM13 LM14 LM15_2 IM0 IM1 IM2 IM3_2)) (hS : va_S A s.heap H locs) (ls : Array Slot) (hl : lv_has ls 5 [(0, .ref (aM 0)), (1, .int (nI x1)), (2, .int (nI x2_2))]) (hR : k_2 x2_2 LM15_2 IM3_2 = r0), W p l e (headSpec u_Model_measure ({ frames := 0, cells := 0, slots := 0, locals := 0 })).room s m ([.ref (aM 0), .int (nI x1)]).toArray below meth c H locs 0 0 (hh_Zv below (dC, dI) vwCl [(cI, .int), (cJ, .long), (cZ, .boolean)] A (w_M cI cJ cZ aM VM0 VM1 VM2 VM3 VM4 VM5 WM0 NM0 NM1 NM2 LM0 LM1 LM2 LM3 LM4 LM5 LM6 LM7 LM8 LM9 LM10 LM11 LM12 LM13 LM14 r0.1 IM0 IM1 IM2 r0.2) ([.ref (aM 0), .int (nI x1)]).toArray s) (F0 m 40 ls []) := by
    intro x2_2 LM15_2 IM3_2 hi hfar hbef hx34 H locs hP hD hS ls hl hR
    rw [← hk_2] at hR
    unfold f_Model_measure_x2 at hR
    have hfar := fun v (h : v < 34) => hfar v (by omega)
    have hbef := fun v (h : v < 34) => hbef v (by omega)
    have hini := hi0 LM15_2 IM3_2 hfar hbef
    have hiv := hini.1
    have hmu0 := hini.2
    refine lv_iconst (v := nI 1) hx hb d_Model_measure_40 (by decide) ?_
    refine lv_istore_n (lv' := [(2, .int (nI 1)), (0, .ref (aM 0)), (1, .int (nI x1))]) hx hb d_Model_measure_41 rfl hl (by decide) rfl (fun ls hl => ?_)
    obtain ⟨k_42, hk_42, hR⟩ : ∃ k, f_Model_measure_x42 = k ∧ f_Model_measure_h42 LM13 LM14 k 1000000000000000000000000000000 1 LM15_2 IM3_2 = r0 := ⟨_, rfl, hR⟩
    have X_42 : ∀ (x2_42 : Nat) (LM15_42 : Nat → Int64) (IM3_42 : Nat → Int32) (hm1 : x2_42 ≤ 1) (hiv : Iv LM15_42 IM3_42) (H : Heap) (locs : List Loc) (hP : va_P (dC, dI) vwCl (w_M cI cJ cZ aM VM0 VM1 VM2 VM3 VM4 VM5 WM0 NM0 NM1 NM2 LM0 LM1 LM2 LM3 LM4 LM5 LM6 LM7 LM8 LM9 LM10 LM11 LM12 LM13 LM14 LM15_42 IM0 IM1 IM2 IM3_42) H) (hD : va_D A (w_M cI cJ cZ aM VM0 VM1 VM2 VM3 VM4 VM5 WM0 NM0 NM1 NM2 LM0 LM1 LM2 LM3 LM4 LM5 LM6 LM7 LM8 LM9 LM10 LM11 LM12 LM13 LM14 LM15_42 IM0 IM1 IM2 IM3_42)) (hS : va_S A s.heap H locs) (ls : Array Slot) (hl : lv_has ls 5 [(0, .ref (aM 0)), (1, .int (nI x1)), (2, .int (nI x2_42))]) (hR : k_42 x2_42 LM15_42 IM3_42 = r0), W p l e (headSpec u_Model_measure ({ frames := 0, cells := 0, slots := 0, locals := 0 })).room s m ([.ref (aM 0), .int (nI x1)]).toArray below meth c H locs 0 0 (hh_Zv below (dC, dI) vwCl [(cI, .int), (cJ, .long), (cZ, .boolean)] A (w_M cI cJ cZ aM VM0 VM1 VM2 VM3 VM4 VM5 WM0 NM0 NM1 NM2 LM0 LM1 LM2 LM3 LM4 LM5 LM6 LM7 LM8 LM9 LM10 LM11 LM12 LM13 LM14 r0.1 IM0 IM1 IM2 r0.2) ([.ref (aM 0), .int (nI x1)]).toArray s) (F0 m 177 ls []) := by
      intro x2_42 LM15_42 IM3_42 hm1 hiv H locs hP hD hS ls hl hR
      rw [← hk_42] at hR
      unfold f_Model_measure_x42 at hR
      subst hR
      exact W.vret hx hb hr (fun t ht hW => ⟨⟨(), rfl, trivial, by rw [ht]; exact hP, va_K.moved hW.alike hK, hD⟩, hS.F ht⟩) hS.2.2 d_Model_measure_177
    have L_42 : ∀ (n : Nat) (x2_42 : Nat) (LM15_42 : Nat → Int64) (IM3_42 : Nat → Int32) (hm1 : x2_42 ≤ 1) (hiv : Iv LM15_42 IM3_42) (hfu : mu LM15_42 + x2_42 < n) (H : Heap) (locs : List Loc) (hP : va_P (dC, dI) vwCl (w_M cI cJ cZ aM VM0 VM1 VM2 VM3 VM4 VM5 WM0 NM0 NM1 NM2 LM0 LM1 LM2 LM3 LM4 LM5 LM6 LM7 LM8 LM9 LM10 LM11 LM12 LM13 LM14 LM15_42 IM0 IM1 IM2 IM3_42) H) (hD : va_D A (w_M cI cJ cZ aM VM0 VM1 VM2 VM3 VM4 VM5 WM0 NM0 NM1 NM2 LM0 LM1 LM2 LM3 LM4 LM5 LM6 LM7 LM8 LM9 LM10 LM11 LM12 LM13 LM14 LM15_42 IM0 IM1 IM2 IM3_42)) (hS : va_S A s.heap H locs) (ls : Array Slot) (hl : lv_has ls 5 [(0, .ref (aM 0)), (1, .int (nI x1)), (2, .int (nI x2_42))]) (hR : f_Model_measure_h42 LM13 LM14 k_42 n x2_42 LM15_42 IM3_42 = r0), W p l e (headSpec u_Model_measure ({ frames := 0, cells := 0, slots := 0, locals := 0 })).room s m ([.ref (aM 0), .int (nI x1)]).toArray below meth c H locs 0 0 (hh_Zv below (dC, dI) vwCl [(cI, .int), (cJ, .long), (cZ, .boolean)] A (w_M cI cJ cZ aM VM0 VM1 VM2 VM3 VM4 VM5 WM0 NM0 NM1 NM2 LM0 LM1 LM2 LM3 LM4 LM5 LM6 LM7 LM8 LM9 LM10 LM11 LM12 LM13 LM14 r0.1 IM0 IM1 IM2 r0.2) ([.ref (aM 0), .int (nI x1)]).toArray s) (F0 m 42 ls []) := by
      intro n
      induction n with
      | zero =>
        intro x2_42 LM15_42 IM3_42 hm1 hiv hfu H locs hP hD hS ls hl hR
        exact absurd hfu (Nat.not_lt_zero _)
      | succ n ih_42 =>
        intro x2_42 LM15_42 IM3_42 hm1 hiv hfu H locs hP hD hS ls hl hR
        rw [f_Model_measure_h42] at hR
        obtain ⟨rec_42, hrec_42, hR⟩ : ∃ r, r = _ ∧ f_Model_measure_h42B LM13 LM14 k_42 r x2_42 LM15_42 IM3_42 = r0 := ⟨_, rfl, hR⟩
        unfold f_Model_measure_h42B at hR
        refine lv_iload_n hx hb d_Model_measure_42 rfl (lv_at hl 2 rfl) ?_
        refine hw_if_eq (tgt := 177) hx hb d_Model_measure_43 (by decide) (by omega) (fun c43 => ?_) (fun c43 => ?_)
        · replace hR := (if_pos c43).symm.trans hR
          exact X_42 x2_42 LM15_42 IM3_42 (by first | assumption | omega | exact hw_upb (by assumption) (by omega)) (by first | assumption | omega | exact hw_upb (by assumption) (by omega)) H locs hP hD hS ls (lv_sub hl [0, 1, 2] rfl) hR
        · replace hR := (if_neg c43).symm.trans hR
          refine lv_iconst (v := nI 0) hx hb d_Model_measure_46 (by decide) ?_
          refine lv_istore_n (lv' := [(2, .int (nI 0)), (0, .ref (aM 0)), (1, .int (nI x1))]) hx hb d_Model_measure_47 rfl hl (by decide) rfl (fun ls hl => ?_)
          refine lv_iconst (v := nI 0) hx hb d_Model_measure_48 (by decide) ?_
          refine lv_istore_n (lv' := [(3, .int (nI 0)), (2, .int (nI 0)), (0, .ref (aM 0)), (1, .int (nI x1))]) hx hb d_Model_measure_49 rfl hl (by decide) rfl (fun ls hl => ?_)
          obtain ⟨k_50, hk_50, hR⟩ : ∃ k, (f_Model_measure_x50 rec_42) = k ∧ f_Model_measure_h50 LM13 LM14 k 35 0 0 LM15_42 IM3_42 = r0 := ⟨_, rfl, hR⟩
          have X_50 : ∀ (x2_50 : Nat) (x3_50 : Nat) (LM15_50 : Nat → Int64) (IM3_50 : Nat → Int32) (hi : x3_50 ≤ 34) (hm1 : x2_50 ≤ 1) (hiv : Iv LM15_50 IM3_50) (hmu : mu LM15_50 + x2_50 ≤ mu LM15_42) (H : Heap) (locs : List Loc) (hP : va_P (dC, dI) vwCl (w_M cI cJ cZ aM VM0 VM1 VM2 VM3 VM4 VM5 WM0 NM0 NM1 NM2 LM0 LM1 LM2 LM3 LM4 LM5 LM6 LM7 LM8 LM9 LM10 LM11 LM12 LM13 LM14 LM15_50 IM0 IM1 IM2 IM3_50) H) (hD : va_D A (w_M cI cJ cZ aM VM0 VM1 VM2 VM3 VM4 VM5 WM0 NM0 NM1 NM2 LM0 LM1 LM2 LM3 LM4 LM5 LM6 LM7 LM8 LM9 LM10 LM11 LM12 LM13 LM14 LM15_50 IM0 IM1 IM2 IM3_50)) (hS : va_S A s.heap H locs) (ls : Array Slot) (hl : lv_has ls 5 [(0, .ref (aM 0)), (1, .int (nI x1)), (2, .int (nI x2_50)), (3, .int (nI x3_50))]) (hR : k_50 x2_50 x3_50 LM15_50 IM3_50 = r0), W p l e (headSpec u_Model_measure ({ frames := 0, cells := 0, slots := 0, locals := 0 })).room s m ([.ref (aM 0), .int (nI x1)]).toArray below meth c H locs 0 0 (hh_Zv below (dC, dI) vwCl [(cI, .int), (cJ, .long), (cZ, .boolean)] A (w_M cI cJ cZ aM VM0 VM1 VM2 VM3 VM4 VM5 WM0 NM0 NM1 NM2 LM0 LM1 LM2 LM3 LM4 LM5 LM6 LM7 LM8 LM9 LM10 LM11 LM12 LM13 LM14 r0.1 IM0 IM1 IM2 r0.2) ([.ref (aM 0), .int (nI x1)]).toArray s) (F0 m 174 ls []) := by
            intro x2_50 x3_50 LM15_50 IM3_50 hi hm1 hiv hmu H locs hP hD hS ls hl hR
            rw [← hk_50] at hR
            unfold f_Model_measure_x50 at hR
            refine lv_goto (tgt := 42) hx hb d_Model_measure_174 (by decide) ?_
            rw [hrec_42] at hR
            exact ih_42 x2_50 LM15_50 IM3_50 (by first | assumption | omega | exact hw_upb (by assumption) (by omega)) (by first | assumption | omega | exact hw_upb (by assumption) (by omega)) (by omega) H locs hP hD hS ls (lv_sub hl [0, 1, 2] rfl) hR
          have L_50 : ∀ (n : Nat) (x2_50 : Nat) (x3_50 : Nat) (LM15_50 : Nat → Int64) (IM3_50 : Nat → Int32) (hi : x3_50 ≤ 34) (hm1 : x2_50 ≤ 1) (hiv : Iv LM15_50 IM3_50) (hmu : mu LM15_50 + x2_50 ≤ mu LM15_42) (hfu : 34 - x3_50 < n) (H : Heap) (locs : List Loc) (hP : va_P (dC, dI) vwCl (w_M cI cJ cZ aM VM0 VM1 VM2 VM3 VM4 VM5 WM0 NM0 NM1 NM2 LM0 LM1 LM2 LM3 LM4 LM5 LM6 LM7 LM8 LM9 LM10 LM11 LM12 LM13 LM14 LM15_50 IM0 IM1 IM2 IM3_50) H) (hD : va_D A (w_M cI cJ cZ aM VM0 VM1 VM2 VM3 VM4 VM5 WM0 NM0 NM1 NM2 LM0 LM1 LM2 LM3 LM4 LM5 LM6 LM7 LM8 LM9 LM10 LM11 LM12 LM13 LM14 LM15_50 IM0 IM1 IM2 IM3_50)) (hS : va_S A s.heap H locs) (ls : Array Slot) (hl : lv_has ls 5 [(0, .ref (aM 0)), (1, .int (nI x1)), (2, .int (nI x2_50)), (3, .int (nI x3_50))]) (hR : f_Model_measure_h50 LM13 LM14 k_50 n x2_50 x3_50 LM15_50 IM3_50 = r0), W p l e (headSpec u_Model_measure ({ frames := 0, cells := 0, slots := 0, locals := 0 })).room s m ([.ref (aM 0), .int (nI x1)]).toArray below meth c H locs 0 0 (hh_Zv below (dC, dI) vwCl [(cI, .int), (cJ, .long), (cZ, .boolean)] A (w_M cI cJ cZ aM VM0 VM1 VM2 VM3 VM4 VM5 WM0 NM0 NM1 NM2 LM0 LM1 LM2 LM3 LM4 LM5 LM6 LM7 LM8 LM9 LM10 LM11 LM12 LM13 LM14 r0.1 IM0 IM1 IM2 r0.2) ([.ref (aM 0), .int (nI x1)]).toArray s) (F0 m 50 ls []) := by
            intro n
            induction n with
            | zero =>
              intro x2_50 x3_50 LM15_50 IM3_50 hi hm1 hiv hmu hfu H locs hP hD hS ls hl hR
              exact absurd hfu (Nat.not_lt_zero _)
            | succ n ih_50 =>
              intro x2_50 x3_50 LM15_50 IM3_50 hi hm1 hiv hmu hfu H locs hP hD hS ls hl hR
              rw [f_Model_measure_h50] at hR
              obtain ⟨rec_50, hrec_50, hR⟩ : ∃ r, r = _ ∧ f_Model_measure_h50B LM13 LM14 k_50 r x2_50 x3_50 LM15_50 IM3_50 = r0 := ⟨_, rfl, hR⟩
              unfold f_Model_measure_h50B at hR
              refine lv_iload_n hx hb d_Model_measure_50 rfl (lv_at hl 3 rfl) ?_
              refine lv_bipush (v := nI 34) hx hb d_Model_measure_51 (by decide) ?_
              refine hw_icmp_ge (tgt := 174) hx hb d_Model_measure_53 (by decide) (by omega) (by omega) (fun c53 => ?_) (fun c53 => ?_)
              · replace hR := (if_pos c53).symm.trans hR
                exact X_50 x2_50 x3_50 LM15_50 IM3_50 (by first | assumption | omega | exact hw_upb (by assumption) (by omega)) (by first | assumption | omega | exact hw_upb (by assumption) (by omega)) (by first | assumption | omega | exact hw_upb (by assumption) (by omega)) (by first | assumption | omega | exact hw_upb (by assumption) (by omega)) H locs hP hD hS ls (lv_sub hl [0, 1, 2, 3] rfl) hR
              · replace hR := (if_neg c53).symm.trans hR
                refine lv_iconst (v := nI 0) hx hb d_Model_measure_56 (by decide) ?_
                refine lv_istore (lv' := [(4, .int (nI 0)), (0, .ref (aM 0)), (1, .int (nI x1)), (2, .int (nI x2_50)), (3, .int (nI x3_50))]) hx hb d_Model_measure_57 hl (by decide) rfl (fun ls hl => ?_)
                obtain ⟨k_59, hk_59, hR⟩ : ∃ k, (f_Model_measure_x59 rec_50 x3_50) = k ∧ f_Model_measure_h59 x3_50 LM13 LM14 k 35 x2_50 0 LM15_50 IM3_50 = r0 := ⟨_, rfl, hR⟩
                have X_59 : ∀ (x2_59 : Nat) (x4_59 : Nat) (LM15_59 : Nat → Int64) (IM3_59 : Nat → Int32) (hi4 : x4_59 ≤ 34) (hm1 : x2_59 ≤ 1) (hiv : Iv LM15_59 IM3_59) (hmu : mu LM15_59 + x2_59 ≤ mu LM15_42) (H : Heap) (locs : List Loc) (hP : va_P (dC, dI) vwCl (w_M cI cJ cZ aM VM0 VM1 VM2 VM3 VM4 VM5 WM0 NM0 NM1 NM2 LM0 LM1 LM2 LM3 LM4 LM5 LM6 LM7 LM8 LM9 LM10 LM11 LM12 LM13 LM14 LM15_59 IM0 IM1 IM2 IM3_59) H) (hD : va_D A (w_M cI cJ cZ aM VM0 VM1 VM2 VM3 VM4 VM5 WM0 NM0 NM1 NM2 LM0 LM1 LM2 LM3 LM4 LM5 LM6 LM7 LM8 LM9 LM10 LM11 LM12 LM13 LM14 LM15_59 IM0 IM1 IM2 IM3_59)) (hS : va_S A s.heap H locs) (ls : Array Slot) (hl : lv_has ls 5 [(0, .ref (aM 0)), (1, .int (nI x1)), (2, .int (nI x2_59)), (3, .int (nI x3_50)), (4, .int (nI x4_59))]) (hR : k_59 x2_59 x4_59 LM15_59 IM3_59 = r0), W p l e (headSpec u_Model_measure ({ frames := 0, cells := 0, slots := 0, locals := 0 })).room s m ([.ref (aM 0), .int (nI x1)]).toArray below meth c H locs 0 0 (hh_Zv below (dC, dI) vwCl [(cI, .int), (cJ, .long), (cZ, .boolean)] A (w_M cI cJ cZ aM VM0 VM1 VM2 VM3 VM4 VM5 WM0 NM0 NM1 NM2 LM0 LM1 LM2 LM3 LM4 LM5 LM6 LM7 LM8 LM9 LM10 LM11 LM12 LM13 LM14 r0.1 IM0 IM1 IM2 r0.2) ([.ref (aM 0), .int (nI x1)]).toArray s) (F0 m 168 ls []) := by
                  intro x2_59 x4_59 LM15_59 IM3_59 hi4 hm1 hiv hmu H locs hP hD hS ls hl hR
                  rw [← hk_59] at hR
                  unfold f_Model_measure_x59 at hR
                  refine lv_iinc (v := nI (x3_50 + 1)) (lv' := [(3, .int (nI (x3_50 + 1))), (0, .ref (aM 0)), (1, .int (nI x1)), (2, .int (nI x2_59)), (4, .int (nI x4_59))]) hx hb d_Model_measure_168 hl (k := 3) rfl (hw_inc _ 1) (by decide) rfl (fun ls hl => ?_)
                  refine lv_goto (tgt := 50) hx hb d_Model_measure_171 (by decide) ?_
                  rw [hrec_50] at hR
                  exact ih_50 x2_59 (x3_50 + 1) LM15_59 IM3_59 (by first | assumption | omega | exact hw_upb (by assumption) (by omega)) (by first | assumption | omega | exact hw_upb (by assumption) (by omega)) (by first | assumption | omega | exact hw_upb (by assumption) (by omega)) (by first | assumption | omega | exact hw_upb (by assumption) (by omega)) (by omega) H locs hP hD hS ls (lv_sub hl [1, 2, 3, 0] rfl) hR
                have L_59 : ∀ (n : Nat) (x2_59 : Nat) (x4_59 : Nat) (LM15_59 : Nat → Int64) (IM3_59 : Nat → Int32) (hi4 : x4_59 ≤ 34) (hm1 : x2_59 ≤ 1) (hiv : Iv LM15_59 IM3_59) (hmu : mu LM15_59 + x2_59 ≤ mu LM15_42) (hfu : 34 - x4_59 < n) (H : Heap) (locs : List Loc) (hP : va_P (dC, dI) vwCl (w_M cI cJ cZ aM VM0 VM1 VM2 VM3 VM4 VM5 WM0 NM0 NM1 NM2 LM0 LM1 LM2 LM3 LM4 LM5 LM6 LM7 LM8 LM9 LM10 LM11 LM12 LM13 LM14 LM15_59 IM0 IM1 IM2 IM3_59) H) (hD : va_D A (w_M cI cJ cZ aM VM0 VM1 VM2 VM3 VM4 VM5 WM0 NM0 NM1 NM2 LM0 LM1 LM2 LM3 LM4 LM5 LM6 LM7 LM8 LM9 LM10 LM11 LM12 LM13 LM14 LM15_59 IM0 IM1 IM2 IM3_59)) (hS : va_S A s.heap H locs) (ls : Array Slot) (hl : lv_has ls 5 [(0, .ref (aM 0)), (1, .int (nI x1)), (2, .int (nI x2_59)), (3, .int (nI x3_50)), (4, .int (nI x4_59))]) (hR : f_Model_measure_h59 x3_50 LM13 LM14 k_59 n x2_59 x4_59 LM15_59 IM3_59 = r0), W p l e (headSpec u_Model_measure ({ frames := 0, cells := 0, slots := 0, locals := 0 })).room s m ([.ref (aM 0), .int (nI x1)]).toArray below meth c H locs 0 0 (hh_Zv below (dC, dI) vwCl [(cI, .int), (cJ, .long), (cZ, .boolean)] A (w_M cI cJ cZ aM VM0 VM1 VM2 VM3 VM4 VM5 WM0 NM0 NM1 NM2 LM0 LM1 LM2 LM3 LM4 LM5 LM6 LM7 LM8 LM9 LM10 LM11 LM12 LM13 LM14 r0.1 IM0 IM1 IM2 r0.2) ([.ref (aM 0), .int (nI x1)]).toArray s) (F0 m 59 ls []) := by
                  intro n
                  induction n with
                  | zero =>
                    intro x2_59 x4_59 LM15_59 IM3_59 hi4 hm1 hiv hmu hfu H locs hP hD hS ls hl hR
                    exact absurd hfu (Nat.not_lt_zero _)
                  | succ n ih_59 =>
                    intro x2_59 x4_59 LM15_59 IM3_59 hi4 hm1 hiv hmu hfu H locs hP hD hS ls hl hR
                    rw [f_Model_measure_h59] at hR
                    obtain ⟨rec_59, hrec_59, hR⟩ : ∃ r, r = _ ∧ f_Model_measure_h59B x3_50 LM13 LM14 k_59 r x2_59 x4_59 LM15_59 IM3_59 = r0 := ⟨_, rfl, hR⟩
                    unfold f_Model_measure_h59B at hR
                    refine lv_iload hx hb d_Model_measure_59 (lv_at hl 4 rfl) ?_
                    refine lv_bipush (v := nI 34) hx hb d_Model_measure_61 (by decide) ?_
                    refine hw_icmp_ge (tgt := 168) hx hb d_Model_measure_63 (by decide) (by omega) (by omega) (fun c63 => ?_) (fun c63 => ?_)
                    · replace hR := (if_pos c63).symm.trans hR
                      exact X_59 x2_59 x4_59 LM15_59 IM3_59 (by first | assumption | omega | exact hw_upb (by assumption) (by omega)) (by first | assumption | omega | exact hw_upb (by assumption) (by omega)) (by first | assumption | omega | exact hw_upb (by assumption) (by omega)) (by first | assumption | omega | exact hw_upb (by assumption) (by omega)) H locs hP hD hS ls (lv_sub hl [0, 1, 2, 3, 4] rfl) hR
                    · replace hR := (if_neg c63).symm.trans hR
                      refine lv_aload_n hx hb d_Model_measure_66 rfl (lv_at hl 0 rfl) ?_
                      refine va_get (D := (dC, dI)) (ci := 5) (v := .ref (aM 22)) (C := R_Model) (T := T_Model) (N := 30) hx hb hG in_Model hown hK hP 0 rfl rfl 28 (by decide) (hG _ m_642) (fun _ h9 => h9) rfl d_Model_measure_67 ?_
                      refine lv_iload_n hx hb d_Model_measure_70 rfl (lv_at hl 3 rfl) ?_
                      refine hw_lald (f := LM15_59) hx hb hK hP 22 1 rfl rfl (by decide) (by omega) d_Model_measure_71 ?_
                      refine lv_ldc2 (v := 4000000000000000) hx hb hown (hG _ m_785) d_Model_measure_72 ?_
                      refine hw_lcmp_ge (tgt := 168) hx hb d_Model_measure_75 d_Model_measure_76 (by decide) (fun c75 => ?_) (fun c75 => ?_)
                      · replace hR := (if_pos c75).symm.trans hR
                        exact X_59 x2_59 x4_59 LM15_59 IM3_59 (by first | assumption | omega | exact hw_upb (by assumption) (by omega)) (by first | assumption | omega | exact hw_upb (by assumption) (by omega)) (by first | assumption | omega | exact hw_upb (by assumption) (by omega)) (by first | assumption | omega | exact hw_upb (by assumption) (by omega)) H locs hP hD hS ls (lv_sub hl [0, 1, 2, 3, 4] rfl) hR
                      · replace hR := (if_neg c75).symm.trans hR
                        refine lv_aload_n hx hb d_Model_measure_79 rfl (lv_at hl 0 rfl) ?_
                        refine va_get (D := (dC, dI)) (ci := 5) (v := .ref (aM 20)) (C := R_Model) (T := T_Model) (N := 30) hx hb hG in_Model hown hK hP 0 rfl rfl 26 (by decide) (hG _ m_640) (fun _ h9 => h9) rfl d_Model_measure_80 ?_
                        refine lv_bipush (v := nI 34) hx hb d_Model_measure_83 (by decide) ?_
                        refine lv_iload_n hx hb d_Model_measure_85 rfl (lv_at hl 3 rfl) ?_
                        refine hw_imul hx hb d_Model_measure_86 ?_
                        refine lv_iload hx hb d_Model_measure_87 (lv_at hl 4 rfl) ?_
                        refine hw_iadd hx hb d_Model_measure_89 ?_
                        refine hw_lald (f := LM13) hx hb hK hP 20 1 rfl rfl (by decide) (by omega) d_Model_measure_90 ?_
                        refine lv_lconst (v := 0) hx hb d_Model_measure_91 (by decide) ?_
                        refine hw_lcmp_le (tgt := 162) hx hb d_Model_measure_92 d_Model_measure_93 (by decide) (fun c92 => ?_) (fun c92 => ?_)
                        · replace hR := (if_pos c92).symm.trans hR
                          refine lv_iinc (v := nI (x4_59 + 1)) (lv' := [(4, .int (nI (x4_59 + 1))), (0, .ref (aM 0)), (1, .int (nI x1)), (2, .int (nI x2_59)), (3, .int (nI x3_50))]) hx hb d_Model_measure_162 hl (k := 4) rfl (hw_inc _ 1) (by decide) rfl (fun ls hl => ?_)
                          refine lv_goto (tgt := 59) hx hb d_Model_measure_165 (by decide) ?_
                          rw [hrec_59] at hR
                          exact ih_59 x2_59 (x4_59 + 1) LM15_59 IM3_59 (by first | assumption | omega | exact hw_upb (by assumption) (by omega)) (by first | assumption | omega | exact hw_upb (by assumption) (by omega)) (by first | assumption | exact hx1.1) (by first | assumption | omega | exact hw_upb (by assumption) (by omega)) (by omega) H locs hP hD hS ls (lv_sub hl [1, 2, 3, 4, 0] rfl) hR
                        · replace hR := (if_neg c92).symm.trans hR
                          refine lv_aload_n hx hb d_Model_measure_96 rfl (lv_at hl 0 rfl) ?_
                          refine va_get (D := (dC, dI)) (ci := 5) (v := .ref (aM 22)) (C := R_Model) (T := T_Model) (N := 30) hx hb hG in_Model hown hK hP 0 rfl rfl 28 (by decide) (hG _ m_642) (fun _ h9 => h9) rfl d_Model_measure_97 ?_
                          refine lv_iload_n hx hb d_Model_measure_100 rfl (lv_at hl 3 rfl) ?_
                          refine hw_lald (f := LM15_59) hx hb hK hP 22 1 rfl rfl (by decide) (by omega) d_Model_measure_101 ?_
                          refine lv_aload_n hx hb d_Model_measure_102 rfl (lv_at hl 0 rfl) ?_
                          refine va_get (D := (dC, dI)) (ci := 5) (v := .ref (aM 21)) (C := R_Model) (T := T_Model) (N := 30) hx hb hG in_Model hown hK hP 0 rfl rfl 27 (by decide) (hG _ m_641) (fun _ h9 => h9) rfl d_Model_measure_103 ?_
                          refine lv_bipush (v := nI 34) hx hb d_Model_measure_106 (by decide) ?_
                          refine lv_iload_n hx hb d_Model_measure_108 rfl (lv_at hl 3 rfl) ?_
                          refine hw_imul hx hb d_Model_measure_109 ?_
                          refine lv_iload hx hb d_Model_measure_110 (lv_at hl 4 rfl) ?_
                          refine hw_iadd hx hb d_Model_measure_112 ?_
                          refine hw_lald (f := LM14) hx hb hK hP 21 1 rfl rfl (by decide) (by omega) d_Model_measure_113 ?_
                          refine lv_ladd hx hb d_Model_measure_114 ?_
                          refine lv_aload_n hx hb d_Model_measure_115 rfl (lv_at hl 0 rfl) ?_
                          refine va_get (D := (dC, dI)) (ci := 5) (v := .ref (aM 22)) (C := R_Model) (T := T_Model) (N := 30) hx hb hG in_Model hown hK hP 0 rfl rfl 28 (by decide) (hG _ m_642) (fun _ h9 => h9) rfl d_Model_measure_116 ?_
                          refine lv_iload hx hb d_Model_measure_119 (lv_at hl 4 rfl) ?_
                          refine hw_lald (f := LM15_59) hx hb hK hP 22 1 rfl rfl (by decide) (by omega) d_Model_measure_121 ?_
                          refine hw_lcmp_ge (tgt := 162) hx hb d_Model_measure_122 d_Model_measure_123 (by decide) (fun c122 => ?_) (fun c122 => ?_)
                          · replace hR := (if_pos c122).symm.trans hR
                            refine lv_iinc (v := nI (x4_59 + 1)) (lv' := [(4, .int (nI (x4_59 + 1))), (0, .ref (aM 0)), (1, .int (nI x1)), (2, .int (nI x2_59)), (3, .int (nI x3_50))]) hx hb d_Model_measure_162 hl (k := 4) rfl (hw_inc _ 1) (by decide) rfl (fun ls hl => ?_)
                            refine lv_goto (tgt := 59) hx hb d_Model_measure_165 (by decide) ?_
                            rw [hrec_59] at hR
                            exact ih_59 x2_59 (x4_59 + 1) LM15_59 IM3_59 (by first | assumption | omega | exact hw_upb (by assumption) (by omega)) (by first | assumption | omega | exact hw_upb (by assumption) (by omega)) (by first | assumption | exact hx1.1) (by first | assumption | omega | exact hw_upb (by assumption) (by omega)) (by omega) H locs hP hD hS ls (lv_sub hl [1, 2, 3, 4, 0] rfl) hR
                          · replace hR := (if_neg c122).symm.trans hR
                            have hx1 := hrx LM15_59 IM3_59 x3_50 x4_59 hiv (by omega) (by omega) c75 c92 c122
                            have hxm := hx1.2
                            refine lv_aload_n hx hb d_Model_measure_126 rfl (lv_at hl 0 rfl) ?_
                            refine va_get (D := (dC, dI)) (ci := 5) (v := .ref (aM 22)) (C := R_Model) (T := T_Model) (N := 30) hx hb hG in_Model hown hK hP 0 rfl rfl 28 (by decide) (hG _ m_642) (fun _ h9 => h9) rfl d_Model_measure_127 ?_
                            refine lv_iload hx hb d_Model_measure_130 (lv_at hl 4 rfl) ?_
                            refine lv_aload_n hx hb d_Model_measure_132 rfl (lv_at hl 0 rfl) ?_
                            refine va_get (D := (dC, dI)) (ci := 5) (v := .ref (aM 22)) (C := R_Model) (T := T_Model) (N := 30) hx hb hG in_Model hown hK hP 0 rfl rfl 28 (by decide) (hG _ m_642) (fun _ h9 => h9) rfl d_Model_measure_133 ?_
                            refine lv_iload_n hx hb d_Model_measure_136 rfl (lv_at hl 3 rfl) ?_
                            refine hw_lald (f := LM15_59) hx hb hK hP 22 1 rfl rfl (by decide) (by omega) d_Model_measure_137 ?_
                            refine lv_aload_n hx hb d_Model_measure_138 rfl (lv_at hl 0 rfl) ?_
                            refine va_get (D := (dC, dI)) (ci := 5) (v := .ref (aM 21)) (C := R_Model) (T := T_Model) (N := 30) hx hb hG in_Model hown hK hP 0 rfl rfl 27 (by decide) (hG _ m_641) (fun _ h9 => h9) rfl d_Model_measure_139 ?_
                            refine lv_bipush (v := nI 34) hx hb d_Model_measure_142 (by decide) ?_
                            refine lv_iload_n hx hb d_Model_measure_144 rfl (lv_at hl 3 rfl) ?_
                            refine hw_imul hx hb d_Model_measure_145 ?_
                            refine lv_iload hx hb d_Model_measure_146 (lv_at hl 4 rfl) ?_
                            refine hw_iadd hx hb d_Model_measure_148 ?_
                            refine hw_lald (f := LM14) hx hb hK hP 21 1 rfl rfl (by decide) (by omega) d_Model_measure_149 ?_
                            refine lv_ladd hx hb d_Model_measure_150 ?_
                            refine hw_last (f := LM15_59) hx hb hK hP hD hS 22 1 rfl rfl (by decide) (by omega) d_Model_measure_151 (fun H locs hP hD hS => ?_)
                            have hP : va_P (dC, dI) vwCl (w_M cI cJ cZ aM VM0 VM1 VM2 VM3 VM4 VM5 WM0 NM0 NM1 NM2 LM0 LM1 LM2 LM3 LM4 LM5 LM6 LM7 LM8 LM9 LM10 LM11 LM12 LM13 LM14 (vp_updL LM15_59 x4_59 ((LM15_59 x3_50) + (LM14 ((34 * x3_50) + x4_59)))) IM0 IM1 IM2 IM3_59) H := hP
                            have hD : va_D A (w_M cI cJ cZ aM VM0 VM1 VM2 VM3 VM4 VM5 WM0 NM0 NM1 NM2 LM0 LM1 LM2 LM3 LM4 LM5 LM6 LM7 LM8 LM9 LM10 LM11 LM12 LM13 LM14 (vp_updL LM15_59 x4_59 ((LM15_59 x3_50) + (LM14 ((34 * x3_50) + x4_59)))) IM0 IM1 IM2 IM3_59) := hD
                            refine lv_aload_n hx hb d_Model_measure_152 rfl (lv_at hl 0 rfl) ?_
                            refine va_get (D := (dC, dI)) (ci := 5) (v := .ref (aM 23)) (C := R_Model) (T := T_Model) (N := 30) hx hb hG in_Model hown hK hP 0 rfl rfl 29 (by decide) (hG _ m_643) (fun _ h9 => h9) rfl d_Model_measure_153 ?_
                            refine lv_iload hx hb d_Model_measure_156 (lv_at hl 4 rfl) ?_
                            refine lv_iload_n hx hb d_Model_measure_158 rfl (lv_at hl 3 rfl) ?_
                            refine hw_iast (f := IM3_59) hx hb hK hP hD hS 23 0 rfl rfl (by decide) (by omega) d_Model_measure_159 (fun H locs hP hD hS => ?_)
                            have hP : va_P (dC, dI) vwCl (w_M cI cJ cZ aM VM0 VM1 VM2 VM3 VM4 VM5 WM0 NM0 NM1 NM2 LM0 LM1 LM2 LM3 LM4 LM5 LM6 LM7 LM8 LM9 LM10 LM11 LM12 LM13 LM14 (vp_updL LM15_59 x4_59 ((LM15_59 x3_50) + (LM14 ((34 * x3_50) + x4_59)))) IM0 IM1 IM2 (upd IM3_59 x4_59 (nI x3_50))) H := hP
                            have hD : va_D A (w_M cI cJ cZ aM VM0 VM1 VM2 VM3 VM4 VM5 WM0 NM0 NM1 NM2 LM0 LM1 LM2 LM3 LM4 LM5 LM6 LM7 LM8 LM9 LM10 LM11 LM12 LM13 LM14 (vp_updL LM15_59 x4_59 ((LM15_59 x3_50) + (LM14 ((34 * x3_50) + x4_59)))) IM0 IM1 IM2 (upd IM3_59 x4_59 (nI x3_50))) := hD
                            refine lv_iconst (v := nI 1) hx hb d_Model_measure_160 (by decide) ?_
                            refine lv_istore_n (lv' := [(2, .int (nI 1)), (0, .ref (aM 0)), (1, .int (nI x1)), (3, .int (nI x3_50)), (4, .int (nI x4_59))]) hx hb d_Model_measure_161 rfl hl (by decide) rfl (fun ls hl => ?_)
                            refine lv_iinc (v := nI (x4_59 + 1)) (lv' := [(4, .int (nI (x4_59 + 1))), (2, .int (nI 1)), (0, .ref (aM 0)), (1, .int (nI x1)), (3, .int (nI x3_50))]) hx hb d_Model_measure_162 hl (k := 4) rfl (hw_inc _ 1) (by decide) rfl (fun ls hl => ?_)
                            refine lv_goto (tgt := 59) hx hb d_Model_measure_165 (by decide) ?_
                            rw [hrec_59] at hR
                            exact ih_59 1 (x4_59 + 1) (vp_updL LM15_59 x4_59 ((LM15_59 x3_50) + (LM14 ((34 * x3_50) + x4_59)))) (upd IM3_59 x4_59 (nI x3_50)) (by first | assumption | omega | exact hw_upb (by assumption) (by omega)) (by first | assumption | omega | exact hw_upb (by assumption) (by omega)) (by first | assumption | exact hx1.1) (by first | assumption | omega | exact hw_upb (by assumption) (by omega)) (by omega) H locs hP hD hS ls (lv_sub hl [2, 3, 1, 4, 0] rfl) hR
                exact L_59 35 x2_50 0 LM15_50 IM3_50 (by first | assumption | omega | exact hw_upb (by assumption) (by omega)) (by first | assumption | omega | exact hw_upb (by assumption) (by omega)) (by first | assumption | omega | exact hw_upb (by assumption) (by omega)) (by first | assumption | omega | exact hw_upb (by assumption) (by omega)) (by omega) H locs hP hD hS ls (lv_sub hl [1, 2, 3, 4, 0] rfl) hR
          exact L_50 35 0 0 LM15_42 IM3_42 (by first | assumption | omega | exact hw_upb (by assumption) (by omega)) (by first | assumption | omega | exact hw_upb (by assumption) (by omega)) (by first | assumption | omega | exact hw_upb (by assumption) (by omega)) (by first | assumption | omega | exact hw_upb (by assumption) (by omega)) (by omega) H locs hP hD hS ls (lv_sub hl [2, 3, 1, 0] rfl) hR
    exact L_42 1000000000000000000000000000000 1 LM15_2 IM3_2 (by first | assumption | omega | exact hw_upb (by assumption) (by omega)) (by first | assumption | omega | exact hw_upb (by assumption) (by omega)) (by omega) H locs hP hD hS ls (lv_sub hl [1, 2, 0] rfl) hR
  have L_2 : ∀ (n : Nat) (x2_2 : Nat) (LM15_2 : Nat → Int64) (IM3_2 : Nat → Int32) (hi : x2_2 ≤ 34) (hfar : ∀ v, v < x2_2 → LM15_2 v = (fun v => if v = x1 then (0 : Int64) else 4000000000000000) v) (hbef : ∀ v, v < x2_2 → IM3_2 v = (fun _ => (-2 : Int32)) v) (hfu : 34 - x2_2 < n) (H : Heap) (locs : List Loc) (hP : va_P (dC, dI) vwCl (w_M cI cJ cZ aM VM0 VM1 VM2 VM3 VM4 VM5 WM0 NM0 NM1 NM2 LM0 LM1 LM2 LM3 LM4 LM5 LM6 LM7 LM8 LM9 LM10 LM11 LM12 LM13 LM14 LM15_2 IM0 IM1 IM2 IM3_2) H) (hD : va_D A (w_M cI cJ cZ aM VM0 VM1 VM2 VM3 VM4 VM5 WM0 NM0 NM1 NM2 LM0 LM1 LM2 LM3 LM4 LM5 LM6 LM7 LM8 LM9 LM10 LM11 LM12 LM13 LM14 LM15_2 IM0 IM1 IM2 IM3_2)) (hS : va_S A s.heap H locs) (ls : Array Slot) (hl : lv_has ls 5 [(0, .ref (aM 0)), (1, .int (nI x1)), (2, .int (nI x2_2))]) (hR : f_Model_measure_h2 x1 k_2 n x2_2 LM15_2 IM3_2 = r0), W p l e (headSpec u_Model_measure ({ frames := 0, cells := 0, slots := 0, locals := 0 })).room s m ([.ref (aM 0), .int (nI x1)]).toArray below meth c H locs 0 0 (hh_Zv below (dC, dI) vwCl [(cI, .int), (cJ, .long), (cZ, .boolean)] A (w_M cI cJ cZ aM VM0 VM1 VM2 VM3 VM4 VM5 WM0 NM0 NM1 NM2 LM0 LM1 LM2 LM3 LM4 LM5 LM6 LM7 LM8 LM9 LM10 LM11 LM12 LM13 LM14 r0.1 IM0 IM1 IM2 r0.2) ([.ref (aM 0), .int (nI x1)]).toArray s) (F0 m 2 ls []) := by
    intro n
    induction n with
    | zero =>
      intro x2_2 LM15_2 IM3_2 hi hfar hbef hfu H locs hP hD hS ls hl hR
      exact absurd hfu (Nat.not_lt_zero _)
    | succ n ih_2 =>
      intro x2_2 LM15_2 IM3_2 hi hfar hbef hfu H locs hP hD hS ls hl hR
      rw [f_Model_measure_h2] at hR
      obtain ⟨rec_2, hrec_2, hR⟩ : ∃ r, r = _ ∧ f_Model_measure_h2B x1 k_2 r x2_2 LM15_2 IM3_2 = r0 := ⟨_, rfl, hR⟩
      unfold f_Model_measure_h2B at hR
      refine lv_iload_n hx hb d_Model_measure_2 rfl (lv_at hl 2 rfl) ?_
      refine lv_bipush (v := nI 34) hx hb d_Model_measure_3 (by decide) ?_
      refine hw_icmp_ge (tgt := 40) hx hb d_Model_measure_5 (by decide) (by omega) (by omega) (fun c5 => ?_) (fun c5 => ?_)
      · replace hR := (if_pos c5).symm.trans hR
        exact X_2 x2_2 LM15_2 IM3_2 (by first | assumption | omega | exact hw_upb (by assumption) (by omega)) (by assumption) (by assumption) (by first | assumption | omega) H locs hP hD hS ls (lv_sub hl [0, 1, 2] rfl) hR
      · replace hR := (if_neg c5).symm.trans hR
        refine lv_aload_n hx hb d_Model_measure_8 rfl (lv_at hl 0 rfl) ?_
        refine va_get (D := (dC, dI)) (ci := 5) (v := .ref (aM 22)) (C := R_Model) (T := T_Model) (N := 30) hx hb hG in_Model hown hK hP 0 rfl rfl 28 (by decide) (hG _ m_642) (fun _ h9 => h9) rfl d_Model_measure_9 ?_
        refine lv_iload_n hx hb d_Model_measure_12 rfl (lv_at hl 2 rfl) ?_
        refine lv_iload_n hx hb d_Model_measure_13 rfl (lv_at hl 2 rfl) ?_
        refine lv_iload_n hx hb d_Model_measure_14 rfl (lv_at hl 1 rfl) ?_
        refine hw_icmp_ne (tgt := 22) hx hb d_Model_measure_15 (by decide) (by omega) (by omega) (fun c15 => ?_) (fun c15 => ?_)
        · replace hR := (if_neg c15).symm.trans hR
          refine lv_ldc2 (v := 4000000000000000) hx hb hown (hG _ m_785) d_Model_measure_22 ?_
          refine hw_last (f := LM15_2) hx hb hK hP hD hS 22 1 rfl rfl (by decide) (by omega) d_Model_measure_25 (fun H locs hP hD hS => ?_)
          have hP : va_P (dC, dI) vwCl (w_M cI cJ cZ aM VM0 VM1 VM2 VM3 VM4 VM5 WM0 NM0 NM1 NM2 LM0 LM1 LM2 LM3 LM4 LM5 LM6 LM7 LM8 LM9 LM10 LM11 LM12 LM13 LM14 (vp_updL LM15_2 x2_2 4000000000000000) IM0 IM1 IM2 IM3_2) H := hP
          have hD : va_D A (w_M cI cJ cZ aM VM0 VM1 VM2 VM3 VM4 VM5 WM0 NM0 NM1 NM2 LM0 LM1 LM2 LM3 LM4 LM5 LM6 LM7 LM8 LM9 LM10 LM11 LM12 LM13 LM14 (vp_updL LM15_2 x2_2 4000000000000000) IM0 IM1 IM2 IM3_2) := hD
          refine lv_aload_n hx hb d_Model_measure_26 rfl (lv_at hl 0 rfl) ?_
          refine va_get (D := (dC, dI)) (ci := 5) (v := .ref (aM 23)) (C := R_Model) (T := T_Model) (N := 30) hx hb hG in_Model hown hK hP 0 rfl rfl 29 (by decide) (hG _ m_643) (fun _ h9 => h9) rfl d_Model_measure_27 ?_
          refine lv_iload_n hx hb d_Model_measure_30 rfl (lv_at hl 2 rfl) ?_
          refine lv_bipush (v := (-2)) hx hb d_Model_measure_31 (by decide) ?_
          refine hw_iast (f := IM3_2) hx hb hK hP hD hS 23 0 rfl rfl (by decide) (by omega) d_Model_measure_33 (fun H locs hP hD hS => ?_)
          have hP : va_P (dC, dI) vwCl (w_M cI cJ cZ aM VM0 VM1 VM2 VM3 VM4 VM5 WM0 NM0 NM1 NM2 LM0 LM1 LM2 LM3 LM4 LM5 LM6 LM7 LM8 LM9 LM10 LM11 LM12 LM13 LM14 (vp_updL LM15_2 x2_2 4000000000000000) IM0 IM1 IM2 (upd IM3_2 x2_2 (-2))) H := hP
          have hD : va_D A (w_M cI cJ cZ aM VM0 VM1 VM2 VM3 VM4 VM5 WM0 NM0 NM1 NM2 LM0 LM1 LM2 LM3 LM4 LM5 LM6 LM7 LM8 LM9 LM10 LM11 LM12 LM13 LM14 (vp_updL LM15_2 x2_2 4000000000000000) IM0 IM1 IM2 (upd IM3_2 x2_2 (-2))) := hD
          refine lv_iinc (v := nI (x2_2 + 1)) (lv' := [(2, .int (nI (x2_2 + 1))), (0, .ref (aM 0)), (1, .int (nI x1))]) hx hb d_Model_measure_34 hl (k := 2) rfl (hw_inc _ 1) (by decide) rfl (fun ls hl => ?_)
          refine lv_goto (tgt := 2) hx hb d_Model_measure_37 (by decide) ?_
          rw [hrec_2] at hR
          exact ih_2 (x2_2 + 1) (vp_updL LM15_2 x2_2 4000000000000000) (upd IM3_2 x2_2 (-2)) (by first | assumption | omega | exact hw_upb (by assumption) (by omega)) (by first | exact hm_ext hfar (if_pos c15) | exact hm_ext hfar (if_neg c15)) (by exact hm_extI hbef rfl) (by omega) H locs hP hD hS ls (lv_sub hl [1, 2, 0] rfl) hR
        · replace hR := (if_pos c15).symm.trans hR
          refine lv_lconst (v := 0) hx hb d_Model_measure_18 (by decide) ?_
          refine lv_goto (tgt := 25) hx hb d_Model_measure_19 (by decide) ?_
          refine hw_last (f := LM15_2) hx hb hK hP hD hS 22 1 rfl rfl (by decide) (by omega) d_Model_measure_25 (fun H locs hP hD hS => ?_)
          have hP : va_P (dC, dI) vwCl (w_M cI cJ cZ aM VM0 VM1 VM2 VM3 VM4 VM5 WM0 NM0 NM1 NM2 LM0 LM1 LM2 LM3 LM4 LM5 LM6 LM7 LM8 LM9 LM10 LM11 LM12 LM13 LM14 (vp_updL LM15_2 x2_2 0) IM0 IM1 IM2 IM3_2) H := hP
          have hD : va_D A (w_M cI cJ cZ aM VM0 VM1 VM2 VM3 VM4 VM5 WM0 NM0 NM1 NM2 LM0 LM1 LM2 LM3 LM4 LM5 LM6 LM7 LM8 LM9 LM10 LM11 LM12 LM13 LM14 (vp_updL LM15_2 x2_2 0) IM0 IM1 IM2 IM3_2) := hD
          refine lv_aload_n hx hb d_Model_measure_26 rfl (lv_at hl 0 rfl) ?_
          refine va_get (D := (dC, dI)) (ci := 5) (v := .ref (aM 23)) (C := R_Model) (T := T_Model) (N := 30) hx hb hG in_Model hown hK hP 0 rfl rfl 29 (by decide) (hG _ m_643) (fun _ h9 => h9) rfl d_Model_measure_27 ?_
          refine lv_iload_n hx hb d_Model_measure_30 rfl (lv_at hl 2 rfl) ?_
          refine lv_bipush (v := (-2)) hx hb d_Model_measure_31 (by decide) ?_
          refine hw_iast (f := IM3_2) hx hb hK hP hD hS 23 0 rfl rfl (by decide) (by omega) d_Model_measure_33 (fun H locs hP hD hS => ?_)
          have hP : va_P (dC, dI) vwCl (w_M cI cJ cZ aM VM0 VM1 VM2 VM3 VM4 VM5 WM0 NM0 NM1 NM2 LM0 LM1 LM2 LM3 LM4 LM5 LM6 LM7 LM8 LM9 LM10 LM11 LM12 LM13 LM14 (vp_updL LM15_2 x2_2 0) IM0 IM1 IM2 (upd IM3_2 x2_2 (-2))) H := hP
          have hD : va_D A (w_M cI cJ cZ aM VM0 VM1 VM2 VM3 VM4 VM5 WM0 NM0 NM1 NM2 LM0 LM1 LM2 LM3 LM4 LM5 LM6 LM7 LM8 LM9 LM10 LM11 LM12 LM13 LM14 (vp_updL LM15_2 x2_2 0) IM0 IM1 IM2 (upd IM3_2 x2_2 (-2))) := hD
          refine lv_iinc (v := nI (x2_2 + 1)) (lv' := [(2, .int (nI (x2_2 + 1))), (0, .ref (aM 0)), (1, .int (nI x1))]) hx hb d_Model_measure_34 hl (k := 2) rfl (hw_inc _ 1) (by decide) rfl (fun ls hl => ?_)
          refine lv_goto (tgt := 2) hx hb d_Model_measure_37 (by decide) ?_
          rw [hrec_2] at hR
          exact ih_2 (x2_2 + 1) (vp_updL LM15_2 x2_2 0) (upd IM3_2 x2_2 (-2)) (by first | assumption | omega | exact hw_upb (by assumption) (by omega)) (by first | exact hm_ext hfar (if_pos c15) | exact hm_ext hfar (if_neg c15)) (by exact hm_extI hbef rfl) (by omega) H locs hP hD hS ls (lv_sub hl [1, 2, 0] rfl) hR
  exact L_2 35 0 LM15 IM3 (by first | assumption | omega | exact hw_upb (by assumption) (by omega)) (by exact fun v h => absurd h (Nat.not_lt_zero v)) (by exact fun v h => absurd h (Nat.not_lt_zero v)) (by omega) H locs hP hD hS ls (lv_sub hl [1, 2, 0] rfl) hR
def f_Model_send_h62B (x1 : Nat) (IM3 : Nat → Int32) (x3_7 : Int64) (k_62 : (Nat) → (Nat → Int64) → Int64 × (Nat → Int64)) (rec_62 : (Nat) → (Nat → Int64) → Int64 × (Nat → Int64)) (x5_62 : Nat) (LM13_62 : Nat → Int64) : Int64 × (Nat → Int64) :=
  if x5_62 = x1 then (k_62 x5_62 LM13_62) else (rec_62 ((IM3 x5_62).toNatClampNeg) (vp_updL (vp_updL LM13_62 ((34 * ((IM3 x5_62).toNatClampNeg)) + x5_62) ((LM13_62 ((34 * ((IM3 x5_62).toNatClampNeg)) + x5_62)) - x3_7)) ((34 * x5_62) + ((IM3 x5_62).toNatClampNeg)) (((vp_updL LM13_62 ((34 * ((IM3 x5_62).toNatClampNeg)) + x5_62) ((LM13_62 ((34 * ((IM3 x5_62).toNatClampNeg)) + x5_62)) - x3_7)) ((34 * x5_62) + ((IM3 x5_62).toNatClampNeg))) + x3_7)))
def f_Model_send_h62 (x1 : Nat) (IM3 : Nat → Int32) (x3_7 : Int64) (k_62 : (Nat) → (Nat → Int64) → Int64 × (Nat → Int64)) : Nat → (Nat) → (Nat → Int64) → Int64 × (Nat → Int64)
  | 0, x5_62, LM13_62 => k_62 x5_62 LM13_62
  | n + 1, x5_62, LM13_62 => f_Model_send_h62B x1 IM3 x3_7 k_62 (fun x5_62 LM13_62 => f_Model_send_h62 x1 IM3 x3_7 k_62 n x5_62 LM13_62) x5_62 LM13_62
def f_Model_send_x62 (x3_7 : Int64) (x5_62 : Nat) (LM13_62 : Nat → Int64) : Int64 × (Nat → Int64) :=
  (x3_7, LM13_62)
def f_Model_send_h7B (x1 : Nat) (LM13 : Nat → Int64) (IM3 : Nat → Int32) (k_7 : (Int64) → (Nat) → Int64 × (Nat → Int64)) (rec_7 : (Int64) → (Nat) → Int64 × (Nat → Int64)) (x3_7 : Int64) (x5_7 : Nat) : Int64 × (Nat → Int64) :=
  if x5_7 = x1 then (k_7 x3_7 x5_7) else (if x3_7 ≤ (LM13 ((34 * ((IM3 x5_7).toNatClampNeg)) + x5_7)) then (rec_7 x3_7 ((IM3 x5_7).toNatClampNeg)) else (rec_7 (LM13 ((34 * ((IM3 x5_7).toNatClampNeg)) + x5_7)) ((IM3 x5_7).toNatClampNeg)))
def f_Model_send_h7 (x1 : Nat) (LM13 : Nat → Int64) (IM3 : Nat → Int32) (k_7 : (Int64) → (Nat) → Int64 × (Nat → Int64)) : Nat → (Int64) → (Nat) → Int64 × (Nat → Int64)
  | 0, x3_7, x5_7 => k_7 x3_7 x5_7
  | n + 1, x3_7, x5_7 => f_Model_send_h7B x1 LM13 IM3 k_7 (fun x3_7 x5_7 => f_Model_send_h7 x1 LM13 IM3 k_7 n x3_7 x5_7) x3_7 x5_7
def f_Model_send_x7 (x1 : Nat) (IM3 : Nat → Int32) (x2 : Nat) (LM13 : Nat → Int64) (x3_7 : Int64) (x5_7 : Nat) : Int64 × (Nat → Int64) :=
  f_Model_send_h62 x1 IM3 x3_7 (f_Model_send_x62 x3_7) 1000 x2 LM13
def f_Model_send (LM13 : Nat → Int64) (IM3 : Nat → Int32) (x1 : Nat) (x2 : Nat) : Int64 × (Nat → Int64) :=
  f_Model_send_h7 x1 LM13 IM3 (f_Model_send_x7 x1 IM3 x2 LM13) 1000 1000000000000 x2
set_option maxHeartbeats 4000000 in
set_option maxRecDepth 100000 in
theorem c_Model_send (l : Launch) (dC : Nat → ClassId) (dI : Nat → Nat → Nat) (cI cJ cZ : ClassId) (sz : Nat) (aM : Nat → Nat) (VM0 : Nat) (VM1 : Nat) (VM2 : Nat) (VM3 : Nat) (VM4 : Nat) (VM5 : Nat) (WM0 : Int64) (NM0 : Nat → Nat) (NM1 : Nat → Nat) (NM2 : Nat → Nat) (LM0 : Nat → Int64) (LM1 : Nat → Int64) (LM2 : Nat → Int64) (LM3 : Nat → Int64) (LM4 : Nat → Int64) (LM5 : Nat → Int64) (LM6 : Nat → Int64) (LM7 : Nat → Int64) (LM8 : Nat → Int64) (LM9 : Nat → Int64) (LM10 : Nat → Int64) (LM11 : Nat → Int64) (LM12 : Nat → Int64) (LM13 : Nat → Int64) (LM14 : Nat → Int64) (LM15 : Nat → Int64) (IM0 : Nat → Int32) (IM1 : Nat → Int32) (IM2 : Nat → Int32) (IM3 : Nat → Int32) (x1 : Nat) (x2 : Nat) (hx1 : x1 < 34) (Rs : Nat → Prop) (dep : Nat → Nat) (hRs : ∀ v, Rs v → v < 34 ∧ dep v < 1000 ∧ (v = x1 ∨ ∃ u0, IM3 v = nI u0 ∧ Rs u0 ∧ dep u0 < dep v)) (hto : Rs x2) : hh_Cl l y_Model_send u_Model_send ({ frames := 0, cells := 0, slots := 0, locals := 0 }) (dC, dI) vwCl [(cI, .int), (cJ, .long), (cZ, .boolean)] (w_M cI cJ cZ aM VM0 VM1 VM2 VM3 VM4 VM5 WM0 NM0 NM1 NM2 LM0 LM1 LM2 LM3 LM4 LM5 LM6 LM7 LM8 LM9 LM10 LM11 LM12 LM13 LM14 LM15 IM0 IM1 IM2 IM3) sz [.ref (aM 0), .int (nI x1), .int (nI x2)] ((f_Model_send LM13 IM3 x1 x2).1) (w_M cI cJ cZ aM VM0 VM1 VM2 VM3 VM4 VM5 WM0 NM0 NM1 NM2 LM0 LM1 LM2 LM3 LM4 LM5 LM6 LM7 LM8 LM9 LM10 LM11 LM12 ((f_Model_send LM13 IM3 x1 x2).2) LM14 LM15 IM0 IM1 IM2 IM3) 0 0 := by
  unfold hh_Cl
  refine Met.ofW (cc := b_Model_send) (maxL := 8) (ret := (some .long)) (by decide) rfl ?_
  intro p e s m args below meth c s₁ B hml hv
  obtain ⟨rfl, hsz, hP, hK, hD0⟩ := hv
  have hx := B.exec
  have hb := B.bytes
  have hr := B.returns
  have hts := atoms_spec (ws := u_Model_send) B.pre
  have hG : ∀ w ∈ wG, w.before ([.ref (aM 0), .int (nI x1), .int (nI x2)]).toArray s = true := fun w h => hts w (List.mem_cons_of_mem _ h)
  have hown : s.vm.findClass R_Model = some m.cls := findClass_of_methodNamed B.named
  have hlocks := B.notSynchronized
  subst hsz
  have hD := hD0.self (sz := s.heap.size)
  generalize hAe : va_A (w_M cI cJ cZ aM VM0 VM1 VM2 VM3 VM4 VM5 WM0 NM0 NM1 NM2 LM0 LM1 LM2 LM3 LM4 LM5 LM6 LM7 LM8 LM9 LM10 LM11 LM12 LM13 LM14 LM15 IM0 IM1 IM2 IM3) s.heap.size = A at hD ⊢
  have hA : ∀ q : Nat, s.heap.size ≤ q → A q := fun q h => by rw [← hAe]; exact Or.inr h
  have hS : va_S A s.heap s.heap [] := va_S.rf
  have hl := lv_entry ([.ref (aM 0), .int (nI x1), .int (nI x2)]) (n := 8) (Nat.le_of_ble_eq_true rfl)
  rw [lg_entry_eq]
  generalize (lg_sl ([.ref (aM 0), .int (nI x1), .int (nI x2)]) ++ List.replicate (8 - (lg_sl ([.ref (aM 0), .int (nI x1), .int (nI x2)])).length) Slot.unset).toArray = ls at hl ⊢
  have hl : lv_has ls 8 [(0, .ref (aM 0)), (1, .int (nI x1)), (2, .int (nI x2))] := hl
  generalize hR : f_Model_send LM13 IM3 x1 x2 = r0
  obtain ⟨H, locs, hHe, hle⟩ : ∃ (H : Heap) (locs : List Loc), s.heap = H ∧ [] = locs := ⟨_, _, rfl, rfl⟩
  have hP : va_P (dC, dI) vwCl (w_M cI cJ cZ aM VM0 VM1 VM2 VM3 VM4 VM5 WM0 NM0 NM1 NM2 LM0 LM1 LM2 LM3 LM4 LM5 LM6 LM7 LM8 LM9 LM10 LM11 LM12 LM13 LM14 LM15 IM0 IM1 IM2 IM3) H := by rw [← hHe]; exact hP
  have hS : va_S A s.heap H locs := by rw [← hHe, ← hle]; exact hS
  refine hw_start hHe hle ?_
  unfold f_Model_send at hR
  refine lv_ldc2 (v := 1000000000000) hx hb hown (hG _ m_613) d_Model_send_0 ?_
  refine lv_lstore_n (lv' := [(3, .long 1000000000000), (0, .ref (aM 0)), (1, .int (nI x1)), (2, .int (nI x2))]) hx hb d_Model_send_3 rfl hl (by decide) rfl (fun ls hl => ?_)
  have hd2 := (hRs x2 hto).2.1
  refine lv_iload_n hx hb d_Model_send_4 rfl (lv_at hl 3 rfl) ?_
  refine lv_istore (lv' := [(5, .int (nI x2)), (3, .long 1000000000000), (0, .ref (aM 0)), (1, .int (nI x1)), (2, .int (nI x2))]) hx hb d_Model_send_5 hl (by decide) rfl (fun ls hl => ?_)
  obtain ⟨k_7, hk_7, hR⟩ : ∃ k, (f_Model_send_x7 x1 IM3 x2 LM13) = k ∧ f_Model_send_h7 x1 LM13 IM3 k 1000 1000000000000 x2 = r0 := ⟨_, rfl, hR⟩
  have X_7 : ∀ (x3_7 : Int64) (x5_7 : Nat) (hrs : Rs x5_7) (H : Heap) (locs : List Loc) (hP : va_P (dC, dI) vwCl (w_M cI cJ cZ aM VM0 VM1 VM2 VM3 VM4 VM5 WM0 NM0 NM1 NM2 LM0 LM1 LM2 LM3 LM4 LM5 LM6 LM7 LM8 LM9 LM10 LM11 LM12 LM13 LM14 LM15 IM0 IM1 IM2 IM3) H) (hD : va_D A (w_M cI cJ cZ aM VM0 VM1 VM2 VM3 VM4 VM5 WM0 NM0 NM1 NM2 LM0 LM1 LM2 LM3 LM4 LM5 LM6 LM7 LM8 LM9 LM10 LM11 LM12 LM13 LM14 LM15 IM0 IM1 IM2 IM3)) (hS : va_S A s.heap H locs) (ls : Array Slot) (hl : lv_has ls 8 [(0, .ref (aM 0)), (1, .int (nI x1)), (2, .int (nI x2)), (3, .long x3_7), (5, .int (nI x5_7))]) (hR : k_7 x3_7 x5_7 = r0), W p l e (headSpec u_Model_send ({ frames := 0, cells := 0, slots := 0, locals := 0 })).room s m ([.ref (aM 0), .int (nI x1), .int (nI x2)]).toArray below meth c H locs 0 0 (hh_Zl below (dC, dI) vwCl [(cI, .int), (cJ, .long), (cZ, .boolean)] A r0.1 (w_M cI cJ cZ aM VM0 VM1 VM2 VM3 VM4 VM5 WM0 NM0 NM1 NM2 LM0 LM1 LM2 LM3 LM4 LM5 LM6 LM7 LM8 LM9 LM10 LM11 LM12 r0.2 LM14 LM15 IM0 IM1 IM2 IM3) ([.ref (aM 0), .int (nI x1), .int (nI x2)]).toArray s) (F0 m 59 ls []) := by
    intro x3_7 x5_7 hrs H locs hP hD hS ls hl hR
    rw [← hk_7] at hR
    unfold f_Model_send_x7 at hR
    have hd2 := (hRs x2 hto).2.1
    refine lv_iload_n hx hb d_Model_send_59 rfl (lv_at hl 2 rfl) ?_
    refine lv_istore (lv' := [(5, .int (nI x2)), (0, .ref (aM 0)), (1, .int (nI x1)), (2, .int (nI x2)), (3, .long x3_7)]) hx hb d_Model_send_60 hl (by decide) rfl (fun ls hl => ?_)
    obtain ⟨k_62, hk_62, hR⟩ : ∃ k, (f_Model_send_x62 x3_7) = k ∧ f_Model_send_h62 x1 IM3 x3_7 k 1000 x2 LM13 = r0 := ⟨_, rfl, hR⟩
    have X_62 : ∀ (x5_62 : Nat) (LM13_62 : Nat → Int64) (hrs : Rs x5_62) (H : Heap) (locs : List Loc) (hP : va_P (dC, dI) vwCl (w_M cI cJ cZ aM VM0 VM1 VM2 VM3 VM4 VM5 WM0 NM0 NM1 NM2 LM0 LM1 LM2 LM3 LM4 LM5 LM6 LM7 LM8 LM9 LM10 LM11 LM12 LM13_62 LM14 LM15 IM0 IM1 IM2 IM3) H) (hD : va_D A (w_M cI cJ cZ aM VM0 VM1 VM2 VM3 VM4 VM5 WM0 NM0 NM1 NM2 LM0 LM1 LM2 LM3 LM4 LM5 LM6 LM7 LM8 LM9 LM10 LM11 LM12 LM13_62 LM14 LM15 IM0 IM1 IM2 IM3)) (hS : va_S A s.heap H locs) (ls : Array Slot) (hl : lv_has ls 8 [(0, .ref (aM 0)), (1, .int (nI x1)), (2, .int (nI x2)), (3, .long x3_7), (5, .int (nI x5_62))]) (hR : k_62 x5_62 LM13_62 = r0), W p l e (headSpec u_Model_send ({ frames := 0, cells := 0, slots := 0, locals := 0 })).room s m ([.ref (aM 0), .int (nI x1), .int (nI x2)]).toArray below meth c H locs 0 0 (hh_Zl below (dC, dI) vwCl [(cI, .int), (cJ, .long), (cZ, .boolean)] A r0.1 (w_M cI cJ cZ aM VM0 VM1 VM2 VM3 VM4 VM5 WM0 NM0 NM1 NM2 LM0 LM1 LM2 LM3 LM4 LM5 LM6 LM7 LM8 LM9 LM10 LM11 LM12 r0.2 LM14 LM15 IM0 IM1 IM2 IM3) ([.ref (aM 0), .int (nI x1), .int (nI x2)]).toArray s) (F0 m 124 ls []) := by
      intro x5_62 LM13_62 hrs H locs hP hD hS ls hl hR
      rw [← hk_62] at hR
      unfold f_Model_send_x62 at hR
      refine lv_lload_n hx hb d_Model_send_124 rfl (lv_at hl 3 rfl) ?_
      subst hR
      exact W.lret (v := x3_7) hx hb hr (fun t ht hW => ⟨⟨_, (), rfl, rfl, by rw [ht]; exact hP, va_K.moved hW.alike hK, hD⟩, hS.F ht⟩) hS.2.2 d_Model_send_125
    have L_62 : ∀ (n : Nat) (x5_62 : Nat) (LM13_62 : Nat → Int64) (hrs : Rs x5_62) (hfu : dep x5_62 < n) (H : Heap) (locs : List Loc) (hP : va_P (dC, dI) vwCl (w_M cI cJ cZ aM VM0 VM1 VM2 VM3 VM4 VM5 WM0 NM0 NM1 NM2 LM0 LM1 LM2 LM3 LM4 LM5 LM6 LM7 LM8 LM9 LM10 LM11 LM12 LM13_62 LM14 LM15 IM0 IM1 IM2 IM3) H) (hD : va_D A (w_M cI cJ cZ aM VM0 VM1 VM2 VM3 VM4 VM5 WM0 NM0 NM1 NM2 LM0 LM1 LM2 LM3 LM4 LM5 LM6 LM7 LM8 LM9 LM10 LM11 LM12 LM13_62 LM14 LM15 IM0 IM1 IM2 IM3)) (hS : va_S A s.heap H locs) (ls : Array Slot) (hl : lv_has ls 8 [(0, .ref (aM 0)), (1, .int (nI x1)), (2, .int (nI x2)), (3, .long x3_7), (5, .int (nI x5_62))]) (hR : f_Model_send_h62 x1 IM3 x3_7 k_62 n x5_62 LM13_62 = r0), W p l e (headSpec u_Model_send ({ frames := 0, cells := 0, slots := 0, locals := 0 })).room s m ([.ref (aM 0), .int (nI x1), .int (nI x2)]).toArray below meth c H locs 0 0 (hh_Zl below (dC, dI) vwCl [(cI, .int), (cJ, .long), (cZ, .boolean)] A r0.1 (w_M cI cJ cZ aM VM0 VM1 VM2 VM3 VM4 VM5 WM0 NM0 NM1 NM2 LM0 LM1 LM2 LM3 LM4 LM5 LM6 LM7 LM8 LM9 LM10 LM11 LM12 r0.2 LM14 LM15 IM0 IM1 IM2 IM3) ([.ref (aM 0), .int (nI x1), .int (nI x2)]).toArray s) (F0 m 62 ls []) := by
      intro n
      induction n with
      | zero =>
        intro x5_62 LM13_62 hrs hfu H locs hP hD hS ls hl hR
        exact absurd hfu (Nat.not_lt_zero _)
      | succ n ih_62 =>
        intro x5_62 LM13_62 hrs hfu H locs hP hD hS ls hl hR
        rw [f_Model_send_h62] at hR
        obtain ⟨rec_62, hrec_62, hR⟩ : ∃ r, r = _ ∧ f_Model_send_h62B x1 IM3 x3_7 k_62 r x5_62 LM13_62 = r0 := ⟨_, rfl, hR⟩
        unfold f_Model_send_h62B at hR
        have hl5 := (hRs x5_62 hrs).1
        refine lv_iload hx hb d_Model_send_62 (lv_at hl 4 rfl) ?_
        refine lv_iload_n hx hb d_Model_send_64 rfl (lv_at hl 1 rfl) ?_
        refine hw_icmp_eq (tgt := 124) hx hb d_Model_send_65 (by decide) (by omega) (by omega) (fun c65 => ?_) (fun c65 => ?_)
        · replace hR := (if_pos c65).symm.trans hR
          exact X_62 x5_62 LM13_62 (by first | assumption | omega | exact hw_upb (by assumption) (by omega)) H locs hP hD hS ls (lv_sub hl [0, 1, 2, 3, 4] rfl) hR
        · replace hR := (if_neg c65).symm.trans hR
          obtain ⟨hl5, hdp, h42 | ⟨u0, e1, hu0, hdl⟩⟩ := hRs x5_62 hrs
          · exact absurd h42 c65
          have hul := (hRs u0 hu0).1
          have e3 : (IM3 x5_62).toNatClampNeg = u0 := by rw [e1, nI_clamp (by omega)]
          have hdl2 : dep (IM3 x5_62).toNatClampNeg < dep x5_62 := by rw [e3]; exact hdl
          refine lv_aload_n hx hb d_Model_send_68 rfl (lv_at hl 0 rfl) ?_
          refine va_get (D := (dC, dI)) (ci := 5) (v := .ref (aM 20)) (C := R_Model) (T := T_Model) (N := 30) hx hb hG in_Model hown hK hP 0 rfl rfl 26 (by decide) (hG _ m_640) (fun _ h9 => h9) rfl d_Model_send_69 ?_
          refine lv_bipush (v := nI 34) hx hb d_Model_send_72 (by decide) ?_
          refine lv_aload_n hx hb d_Model_send_74 rfl (lv_at hl 0 rfl) ?_
          refine va_get (D := (dC, dI)) (ci := 5) (v := .ref (aM 23)) (C := R_Model) (T := T_Model) (N := 30) hx hb hG in_Model hown hK hP 0 rfl rfl 29 (by decide) (hG _ m_643) (fun _ h9 => h9) rfl d_Model_send_75 ?_
          refine lv_iload hx hb d_Model_send_78 (lv_at hl 4 rfl) ?_
          refine hw_iald (f := IM3) hx hb hK hP 23 0 rfl rfl (by decide) (by omega) d_Model_send_80 ?_
          refine hw_top (t := (IM3 x5_62).toNatClampNeg) (by rw [e1, nI_clamp (by omega)]) ?_
          refine hw_imul hx hb d_Model_send_81 ?_
          refine lv_iload hx hb d_Model_send_82 (lv_at hl 4 rfl) ?_
          refine hw_iadd hx hb d_Model_send_84 ?_
          refine lv_dup2_11 hx hb d_Model_send_85 rfl rfl ?_
          refine hw_lald (f := LM13_62) hx hb hK hP 20 1 rfl rfl (by decide) (by omega) d_Model_send_86 ?_
          refine lv_lload_n hx hb d_Model_send_87 rfl (lv_at hl 3 rfl) ?_
          refine lv_lsub hx hb d_Model_send_88 ?_
          refine hw_last (f := LM13_62) hx hb hK hP hD hS 20 1 rfl rfl (by decide) (by omega) d_Model_send_89 (fun H locs hP hD hS => ?_)
          have hP : va_P (dC, dI) vwCl (w_M cI cJ cZ aM VM0 VM1 VM2 VM3 VM4 VM5 WM0 NM0 NM1 NM2 LM0 LM1 LM2 LM3 LM4 LM5 LM6 LM7 LM8 LM9 LM10 LM11 LM12 (vp_updL LM13_62 ((34 * ((IM3 x5_62).toNatClampNeg)) + x5_62) ((LM13_62 ((34 * ((IM3 x5_62).toNatClampNeg)) + x5_62)) - x3_7)) LM14 LM15 IM0 IM1 IM2 IM3) H := hP
          have hD : va_D A (w_M cI cJ cZ aM VM0 VM1 VM2 VM3 VM4 VM5 WM0 NM0 NM1 NM2 LM0 LM1 LM2 LM3 LM4 LM5 LM6 LM7 LM8 LM9 LM10 LM11 LM12 (vp_updL LM13_62 ((34 * ((IM3 x5_62).toNatClampNeg)) + x5_62) ((LM13_62 ((34 * ((IM3 x5_62).toNatClampNeg)) + x5_62)) - x3_7)) LM14 LM15 IM0 IM1 IM2 IM3) := hD
          refine lv_aload_n hx hb d_Model_send_90 rfl (lv_at hl 0 rfl) ?_
          refine va_get (D := (dC, dI)) (ci := 5) (v := .ref (aM 20)) (C := R_Model) (T := T_Model) (N := 30) hx hb hG in_Model hown hK hP 0 rfl rfl 26 (by decide) (hG _ m_640) (fun _ h9 => h9) rfl d_Model_send_91 ?_
          refine lv_bipush (v := nI 34) hx hb d_Model_send_94 (by decide) ?_
          refine lv_iload hx hb d_Model_send_96 (lv_at hl 4 rfl) ?_
          refine hw_imul hx hb d_Model_send_98 ?_
          refine lv_aload_n hx hb d_Model_send_99 rfl (lv_at hl 0 rfl) ?_
          refine va_get (D := (dC, dI)) (ci := 5) (v := .ref (aM 23)) (C := R_Model) (T := T_Model) (N := 30) hx hb hG in_Model hown hK hP 0 rfl rfl 29 (by decide) (hG _ m_643) (fun _ h9 => h9) rfl d_Model_send_100 ?_
          refine lv_iload hx hb d_Model_send_103 (lv_at hl 4 rfl) ?_
          refine hw_iald (f := IM3) hx hb hK hP 23 0 rfl rfl (by decide) (by omega) d_Model_send_105 ?_
          refine hw_top (t := (IM3 x5_62).toNatClampNeg) (by rw [e1, nI_clamp (by omega)]) ?_
          refine hw_iadd hx hb d_Model_send_106 ?_
          refine lv_dup2_11 hx hb d_Model_send_107 rfl rfl ?_
          refine hw_lald (f := (vp_updL LM13_62 ((34 * ((IM3 x5_62).toNatClampNeg)) + x5_62) ((LM13_62 ((34 * ((IM3 x5_62).toNatClampNeg)) + x5_62)) - x3_7))) hx hb hK hP 20 1 rfl rfl (by decide) (by omega) d_Model_send_108 ?_
          refine lv_lload_n hx hb d_Model_send_109 rfl (lv_at hl 3 rfl) ?_
          refine lv_ladd hx hb d_Model_send_110 ?_
          refine hw_last (f := (vp_updL LM13_62 ((34 * ((IM3 x5_62).toNatClampNeg)) + x5_62) ((LM13_62 ((34 * ((IM3 x5_62).toNatClampNeg)) + x5_62)) - x3_7))) hx hb hK hP hD hS 20 1 rfl rfl (by decide) (by omega) d_Model_send_111 (fun H locs hP hD hS => ?_)
          have hP : va_P (dC, dI) vwCl (w_M cI cJ cZ aM VM0 VM1 VM2 VM3 VM4 VM5 WM0 NM0 NM1 NM2 LM0 LM1 LM2 LM3 LM4 LM5 LM6 LM7 LM8 LM9 LM10 LM11 LM12 (vp_updL (vp_updL LM13_62 ((34 * ((IM3 x5_62).toNatClampNeg)) + x5_62) ((LM13_62 ((34 * ((IM3 x5_62).toNatClampNeg)) + x5_62)) - x3_7)) ((34 * x5_62) + ((IM3 x5_62).toNatClampNeg)) (((vp_updL LM13_62 ((34 * ((IM3 x5_62).toNatClampNeg)) + x5_62) ((LM13_62 ((34 * ((IM3 x5_62).toNatClampNeg)) + x5_62)) - x3_7)) ((34 * x5_62) + ((IM3 x5_62).toNatClampNeg))) + x3_7)) LM14 LM15 IM0 IM1 IM2 IM3) H := hP
          have hD : va_D A (w_M cI cJ cZ aM VM0 VM1 VM2 VM3 VM4 VM5 WM0 NM0 NM1 NM2 LM0 LM1 LM2 LM3 LM4 LM5 LM6 LM7 LM8 LM9 LM10 LM11 LM12 (vp_updL (vp_updL LM13_62 ((34 * ((IM3 x5_62).toNatClampNeg)) + x5_62) ((LM13_62 ((34 * ((IM3 x5_62).toNatClampNeg)) + x5_62)) - x3_7)) ((34 * x5_62) + ((IM3 x5_62).toNatClampNeg)) (((vp_updL LM13_62 ((34 * ((IM3 x5_62).toNatClampNeg)) + x5_62) ((LM13_62 ((34 * ((IM3 x5_62).toNatClampNeg)) + x5_62)) - x3_7)) ((34 * x5_62) + ((IM3 x5_62).toNatClampNeg))) + x3_7)) LM14 LM15 IM0 IM1 IM2 IM3) := hD
          refine lv_aload_n hx hb d_Model_send_112 rfl (lv_at hl 0 rfl) ?_
          refine va_get (D := (dC, dI)) (ci := 5) (v := .ref (aM 23)) (C := R_Model) (T := T_Model) (N := 30) hx hb hG in_Model hown hK hP 0 rfl rfl 29 (by decide) (hG _ m_643) (fun _ h9 => h9) rfl d_Model_send_113 ?_
          refine lv_iload hx hb d_Model_send_116 (lv_at hl 4 rfl) ?_
          refine hw_iald (f := IM3) hx hb hK hP 23 0 rfl rfl (by decide) (by omega) d_Model_send_118 ?_
          refine hw_top (t := (IM3 x5_62).toNatClampNeg) (by rw [e1, nI_clamp (by omega)]) ?_
          refine lv_istore (lv' := [(5, .int (nI ((IM3 x5_62).toNatClampNeg))), (0, .ref (aM 0)), (1, .int (nI x1)), (2, .int (nI x2)), (3, .long x3_7)]) hx hb d_Model_send_119 hl (by decide) rfl (fun ls hl => ?_)
          refine lv_goto (tgt := 62) hx hb d_Model_send_121 (by decide) ?_
          rw [hrec_62] at hR
          exact ih_62 ((IM3 x5_62).toNatClampNeg) (vp_updL (vp_updL LM13_62 ((34 * ((IM3 x5_62).toNatClampNeg)) + x5_62) ((LM13_62 ((34 * ((IM3 x5_62).toNatClampNeg)) + x5_62)) - x3_7)) ((34 * x5_62) + ((IM3 x5_62).toNatClampNeg)) (((vp_updL LM13_62 ((34 * ((IM3 x5_62).toNatClampNeg)) + x5_62) ((LM13_62 ((34 * ((IM3 x5_62).toNatClampNeg)) + x5_62)) - x3_7)) ((34 * x5_62) + ((IM3 x5_62).toNatClampNeg))) + x3_7)) (by rw [e3]; exact hu0) (by omega) H locs hP hD hS ls (lv_sub hl [1, 2, 3, 4, 0] rfl) hR
    exact L_62 1000 x2 LM13 (by first | assumption | omega | exact hw_upb (by assumption) (by omega)) (by omega) H locs hP hD hS ls (lv_sub hl [1, 2, 3, 4, 0] rfl) hR
  have L_7 : ∀ (n : Nat) (x3_7 : Int64) (x5_7 : Nat) (hrs : Rs x5_7) (hfu : dep x5_7 < n) (H : Heap) (locs : List Loc) (hP : va_P (dC, dI) vwCl (w_M cI cJ cZ aM VM0 VM1 VM2 VM3 VM4 VM5 WM0 NM0 NM1 NM2 LM0 LM1 LM2 LM3 LM4 LM5 LM6 LM7 LM8 LM9 LM10 LM11 LM12 LM13 LM14 LM15 IM0 IM1 IM2 IM3) H) (hD : va_D A (w_M cI cJ cZ aM VM0 VM1 VM2 VM3 VM4 VM5 WM0 NM0 NM1 NM2 LM0 LM1 LM2 LM3 LM4 LM5 LM6 LM7 LM8 LM9 LM10 LM11 LM12 LM13 LM14 LM15 IM0 IM1 IM2 IM3)) (hS : va_S A s.heap H locs) (ls : Array Slot) (hl : lv_has ls 8 [(0, .ref (aM 0)), (1, .int (nI x1)), (2, .int (nI x2)), (3, .long x3_7), (5, .int (nI x5_7))]) (hR : f_Model_send_h7 x1 LM13 IM3 k_7 n x3_7 x5_7 = r0), W p l e (headSpec u_Model_send ({ frames := 0, cells := 0, slots := 0, locals := 0 })).room s m ([.ref (aM 0), .int (nI x1), .int (nI x2)]).toArray below meth c H locs 0 0 (hh_Zl below (dC, dI) vwCl [(cI, .int), (cJ, .long), (cZ, .boolean)] A r0.1 (w_M cI cJ cZ aM VM0 VM1 VM2 VM3 VM4 VM5 WM0 NM0 NM1 NM2 LM0 LM1 LM2 LM3 LM4 LM5 LM6 LM7 LM8 LM9 LM10 LM11 LM12 r0.2 LM14 LM15 IM0 IM1 IM2 IM3) ([.ref (aM 0), .int (nI x1), .int (nI x2)]).toArray s) (F0 m 7 ls []) := by
    intro n
    induction n with
    | zero =>
      intro x3_7 x5_7 hrs hfu H locs hP hD hS ls hl hR
      exact absurd hfu (Nat.not_lt_zero _)
    | succ n ih_7 =>
      intro x3_7 x5_7 hrs hfu H locs hP hD hS ls hl hR
      rw [f_Model_send_h7] at hR
      obtain ⟨rec_7, hrec_7, hR⟩ : ∃ r, r = _ ∧ f_Model_send_h7B x1 LM13 IM3 k_7 r x3_7 x5_7 = r0 := ⟨_, rfl, hR⟩
      unfold f_Model_send_h7B at hR
      have hl5 := (hRs x5_7 hrs).1
      refine lv_iload hx hb d_Model_send_7 (lv_at hl 4 rfl) ?_
      refine lv_iload_n hx hb d_Model_send_9 rfl (lv_at hl 1 rfl) ?_
      refine hw_icmp_eq (tgt := 59) hx hb d_Model_send_10 (by decide) (by omega) (by omega) (fun c10 => ?_) (fun c10 => ?_)
      · replace hR := (if_pos c10).symm.trans hR
        exact X_7 x3_7 x5_7 (by first | assumption | omega | exact hw_upb (by assumption) (by omega)) H locs hP hD hS ls (lv_sub hl [0, 1, 2, 3, 4] rfl) hR
      · replace hR := (if_neg c10).symm.trans hR
        obtain ⟨hl5, hdp, h42 | ⟨u0, e1, hu0, hdl⟩⟩ := hRs x5_7 hrs
        · exact absurd h42 c10
        have hul := (hRs u0 hu0).1
        have e3 : (IM3 x5_7).toNatClampNeg = u0 := by rw [e1, nI_clamp (by omega)]
        have hdl2 : dep (IM3 x5_7).toNatClampNeg < dep x5_7 := by rw [e3]; exact hdl
        refine lv_aload_n hx hb d_Model_send_13 rfl (lv_at hl 0 rfl) ?_
        refine va_get (D := (dC, dI)) (ci := 5) (v := .ref (aM 20)) (C := R_Model) (T := T_Model) (N := 30) hx hb hG in_Model hown hK hP 0 rfl rfl 26 (by decide) (hG _ m_640) (fun _ h9 => h9) rfl d_Model_send_14 ?_
        refine lv_bipush (v := nI 34) hx hb d_Model_send_17 (by decide) ?_
        refine lv_aload_n hx hb d_Model_send_19 rfl (lv_at hl 0 rfl) ?_
        refine va_get (D := (dC, dI)) (ci := 5) (v := .ref (aM 23)) (C := R_Model) (T := T_Model) (N := 30) hx hb hG in_Model hown hK hP 0 rfl rfl 29 (by decide) (hG _ m_643) (fun _ h9 => h9) rfl d_Model_send_20 ?_
        refine lv_iload hx hb d_Model_send_23 (lv_at hl 4 rfl) ?_
        refine hw_iald (f := IM3) hx hb hK hP 23 0 rfl rfl (by decide) (by omega) d_Model_send_25 ?_
        refine hw_top (t := (IM3 x5_7).toNatClampNeg) (by rw [e1, nI_clamp (by omega)]) ?_
        refine hw_imul hx hb d_Model_send_26 ?_
        refine lv_iload hx hb d_Model_send_27 (lv_at hl 4 rfl) ?_
        refine hw_iadd hx hb d_Model_send_29 ?_
        refine hw_lald (f := LM13) hx hb hK hP 20 1 rfl rfl (by decide) (by omega) d_Model_send_30 ?_
        refine lv_lstore (lv' := [(6, .long (LM13 ((34 * ((IM3 x5_7).toNatClampNeg)) + x5_7))), (0, .ref (aM 0)), (1, .int (nI x1)), (2, .int (nI x2)), (3, .long x3_7), (5, .int (nI x5_7))]) hx hb d_Model_send_31 hl (by decide) rfl (fun ls hl => ?_)
        refine lv_lload hx hb d_Model_send_33 (lv_at hl 0 rfl) ?_
        refine lv_lload_n hx hb d_Model_send_35 rfl (lv_at hl 4 rfl) ?_
        refine hw_lcmp_ge (tgt := 45) hx hb d_Model_send_36 d_Model_send_37 (by decide) (fun c36 => ?_) (fun c36 => ?_)
        · replace hR := (if_pos c36).symm.trans hR
          refine lv_lload_n hx hb d_Model_send_45 rfl (lv_at hl 4 rfl) ?_
          refine lv_lstore_n (lv' := [(3, .long x3_7), (6, .long (LM13 ((34 * ((IM3 x5_7).toNatClampNeg)) + x5_7))), (0, .ref (aM 0)), (1, .int (nI x1)), (2, .int (nI x2)), (5, .int (nI x5_7))]) hx hb d_Model_send_46 rfl hl (by decide) rfl (fun ls hl => ?_)
          refine lv_aload_n hx hb d_Model_send_47 rfl (lv_at hl 2 rfl) ?_
          refine va_get (D := (dC, dI)) (ci := 5) (v := .ref (aM 23)) (C := R_Model) (T := T_Model) (N := 30) hx hb hG in_Model hown hK hP 0 rfl rfl 29 (by decide) (hG _ m_643) (fun _ h9 => h9) rfl d_Model_send_48 ?_
          refine lv_iload hx hb d_Model_send_51 (lv_at hl 5 rfl) ?_
          refine hw_iald (f := IM3) hx hb hK hP 23 0 rfl rfl (by decide) (by omega) d_Model_send_53 ?_
          refine hw_top (t := (IM3 x5_7).toNatClampNeg) (by rw [e1, nI_clamp (by omega)]) ?_
          refine lv_istore (lv' := [(5, .int (nI ((IM3 x5_7).toNatClampNeg))), (3, .long x3_7), (6, .long (LM13 ((34 * ((IM3 x5_7).toNatClampNeg)) + x5_7))), (0, .ref (aM 0)), (1, .int (nI x1)), (2, .int (nI x2))]) hx hb d_Model_send_54 hl (by decide) rfl (fun ls hl => ?_)
          refine lv_goto (tgt := 7) hx hb d_Model_send_56 (by decide) ?_
          rw [hrec_7] at hR
          exact ih_7 x3_7 ((IM3 x5_7).toNatClampNeg) (by rw [e3]; exact hu0) (by omega) H locs hP hD hS ls (lv_sub hl [3, 4, 5, 1, 0] rfl) hR
        · replace hR := (if_neg c36).symm.trans hR
          refine lv_lload hx hb d_Model_send_40 (lv_at hl 0 rfl) ?_
          refine lv_goto (tgt := 46) hx hb d_Model_send_42 (by decide) ?_
          refine lv_lstore_n (lv' := [(3, .long (LM13 ((34 * ((IM3 x5_7).toNatClampNeg)) + x5_7))), (6, .long (LM13 ((34 * ((IM3 x5_7).toNatClampNeg)) + x5_7))), (0, .ref (aM 0)), (1, .int (nI x1)), (2, .int (nI x2)), (5, .int (nI x5_7))]) hx hb d_Model_send_46 rfl hl (by decide) rfl (fun ls hl => ?_)
          refine lv_aload_n hx hb d_Model_send_47 rfl (lv_at hl 2 rfl) ?_
          refine va_get (D := (dC, dI)) (ci := 5) (v := .ref (aM 23)) (C := R_Model) (T := T_Model) (N := 30) hx hb hG in_Model hown hK hP 0 rfl rfl 29 (by decide) (hG _ m_643) (fun _ h9 => h9) rfl d_Model_send_48 ?_
          refine lv_iload hx hb d_Model_send_51 (lv_at hl 5 rfl) ?_
          refine hw_iald (f := IM3) hx hb hK hP 23 0 rfl rfl (by decide) (by omega) d_Model_send_53 ?_
          refine hw_top (t := (IM3 x5_7).toNatClampNeg) (by rw [e1, nI_clamp (by omega)]) ?_
          refine lv_istore (lv' := [(5, .int (nI ((IM3 x5_7).toNatClampNeg))), (3, .long (LM13 ((34 * ((IM3 x5_7).toNatClampNeg)) + x5_7))), (6, .long (LM13 ((34 * ((IM3 x5_7).toNatClampNeg)) + x5_7))), (0, .ref (aM 0)), (1, .int (nI x1)), (2, .int (nI x2))]) hx hb d_Model_send_54 hl (by decide) rfl (fun ls hl => ?_)
          refine lv_goto (tgt := 7) hx hb d_Model_send_56 (by decide) ?_
          rw [hrec_7] at hR
          exact ih_7 (LM13 ((34 * ((IM3 x5_7).toNatClampNeg)) + x5_7)) ((IM3 x5_7).toNatClampNeg) (by rw [e3]; exact hu0) (by omega) H locs hP hD hS ls (lv_sub hl [3, 4, 5, 1, 0] rfl) hR
  exact L_7 1000 1000000000000 x2 (by first | assumption | omega | exact hw_upb (by assumption) (by omega)) (by omega) H locs hP hD hS ls (lv_sub hl [2, 3, 4, 1, 0] rfl) hR
