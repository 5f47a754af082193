abbrev b_Plan_turnRing : ByteArray := prog_2_method_28_code
def y_Plan_turnRing : MethodName := ⟨R_Plan, "turnRing", "(III)V"⟩
def u_Plan_turnRing : List Cond := Cond.code y_Plan_turnRing b_Plan_turnRing 9 none :: wG
theorem d_Plan_turnRing_0 : decode b_Plan_turnRing 0 = .ok (.aload_n 0, 1) := by decide +kernel
theorem d_Plan_turnRing_1 : decode b_Plan_turnRing 1 = .ok (.getfield 17, 3) := by decide +kernel
theorem d_Plan_turnRing_4 : decode b_Plan_turnRing 4 = .ok (.iload_n 1, 1) := by decide +kernel
theorem d_Plan_turnRing_5 : decode b_Plan_turnRing 5 = .ok (.bipush 9, 2) := by decide +kernel
theorem d_Plan_turnRing_7 : decode b_Plan_turnRing 7 = .ok (.imul, 1) := by decide +kernel
theorem d_Plan_turnRing_8 : decode b_Plan_turnRing 8 = .ok (.iload_n 3, 1) := by decide +kernel
theorem d_Plan_turnRing_9 : decode b_Plan_turnRing 9 = .ok (.iadd, 1) := by decide +kernel
theorem d_Plan_turnRing_10 : decode b_Plan_turnRing 10 = .ok (.laload, 1) := by decide +kernel
theorem d_Plan_turnRing_11 : decode b_Plan_turnRing 11 = .ok (.lstore 4, 2) := by decide +kernel
theorem d_Plan_turnRing_13 : decode b_Plan_turnRing 13 = .ok (.iload_n 3, 1) := by decide +kernel
theorem d_Plan_turnRing_14 : decode b_Plan_turnRing 14 = .ok (.istore 6, 2) := by decide +kernel
theorem d_Plan_turnRing_16 : decode b_Plan_turnRing 16 = .ok (.iconst 0, 1) := by decide +kernel
theorem d_Plan_turnRing_17 : decode b_Plan_turnRing 17 = .ok (.istore 7, 2) := by decide +kernel
theorem d_Plan_turnRing_19 : decode b_Plan_turnRing 19 = .ok (.iload 7, 2) := by decide +kernel
theorem d_Plan_turnRing_21 : decode b_Plan_turnRing 21 = .ok (.bipush 12, 2) := by decide +kernel
theorem d_Plan_turnRing_23 : decode b_Plan_turnRing 23 = .ok (.if_icmp .ge 59, 3) := by decide +kernel
theorem d_Plan_turnRing_26 : decode b_Plan_turnRing 26 = .ok (.iload 6, 2) := by decide +kernel
theorem d_Plan_turnRing_28 : decode b_Plan_turnRing 28 = .ok (.iload_n 2, 1) := by decide +kernel
theorem d_Plan_turnRing_29 : decode b_Plan_turnRing 29 = .ok (.if_icmp .eq 53, 3) := by decide +kernel
theorem d_Plan_turnRing_32 : decode b_Plan_turnRing 32 = .ok (.aload_n 0, 1) := by decide +kernel
theorem d_Plan_turnRing_33 : decode b_Plan_turnRing 33 = .ok (.getfield 33, 3) := by decide +kernel
theorem d_Plan_turnRing_36 : decode b_Plan_turnRing 36 = .ok (.bipush 12, 2) := by decide +kernel
theorem d_Plan_turnRing_38 : decode b_Plan_turnRing 38 = .ok (.iload 6, 2) := by decide +kernel
theorem d_Plan_turnRing_40 : decode b_Plan_turnRing 40 = .ok (.iadd, 1) := by decide +kernel
theorem d_Plan_turnRing_41 : decode b_Plan_turnRing 41 = .ok (.iaload, 1) := by decide +kernel
theorem d_Plan_turnRing_42 : decode b_Plan_turnRing 42 = .ok (.istore 8, 2) := by decide +kernel
theorem d_Plan_turnRing_44 : decode b_Plan_turnRing 44 = .ok (.aload_n 0, 1) := by decide +kernel
theorem d_Plan_turnRing_45 : decode b_Plan_turnRing 45 = .ok (.getfield 33, 3) := by decide +kernel
theorem d_Plan_turnRing_48 : decode b_Plan_turnRing 48 = .ok (.iload 8, 2) := by decide +kernel
theorem d_Plan_turnRing_50 : decode b_Plan_turnRing 50 = .ok (.iaload, 1) := by decide +kernel
theorem d_Plan_turnRing_51 : decode b_Plan_turnRing 51 = .ok (.bipush 12, 2) := by decide +kernel
theorem d_Plan_turnRing_53 : decode b_Plan_turnRing 53 = .ok (.isub, 1) := by decide +kernel
theorem d_Plan_turnRing_54 : decode b_Plan_turnRing 54 = .ok (.istore 6, 2) := by decide +kernel
theorem d_Plan_turnRing_56 : decode b_Plan_turnRing 56 = .ok (.lload 4, 2) := by decide +kernel
theorem d_Plan_turnRing_58 : decode b_Plan_turnRing 58 = .ok (.aload_n 0, 1) := by decide +kernel
theorem d_Plan_turnRing_59 : decode b_Plan_turnRing 59 = .ok (.getfield 17, 3) := by decide +kernel
theorem d_Plan_turnRing_62 : decode b_Plan_turnRing 62 = .ok (.iload 8, 2) := by decide +kernel
theorem d_Plan_turnRing_64 : decode b_Plan_turnRing 64 = .ok (.bipush 9, 2) := by decide +kernel
theorem d_Plan_turnRing_66 : decode b_Plan_turnRing 66 = .ok (.imul, 1) := by decide +kernel
theorem d_Plan_turnRing_67 : decode b_Plan_turnRing 67 = .ok (.iload 6, 2) := by decide +kernel
theorem d_Plan_turnRing_69 : decode b_Plan_turnRing 69 = .ok (.iadd, 1) := by decide +kernel
theorem d_Plan_turnRing_70 : decode b_Plan_turnRing 70 = .ok (.laload, 1) := by decide +kernel
theorem d_Plan_turnRing_71 : decode b_Plan_turnRing 71 = .ok (.invokestatic 146, 3) := by decide +kernel
theorem d_Plan_turnRing_74 : decode b_Plan_turnRing 74 = .ok (.lstore 4, 2) := by decide +kernel
theorem d_Plan_turnRing_76 : decode b_Plan_turnRing 76 = .ok (.iinc 7 1, 3) := by decide +kernel
theorem d_Plan_turnRing_79 : decode b_Plan_turnRing 79 = .ok (.goto (-60), 3) := by decide +kernel
theorem d_Plan_turnRing_82 : decode b_Plan_turnRing 82 = .ok (.aload_n 0, 1) := by decide +kernel
theorem d_Plan_turnRing_83 : decode b_Plan_turnRing 83 = .ok (.getfield 17, 3) := by decide +kernel
theorem d_Plan_turnRing_86 : decode b_Plan_turnRing 86 = .ok (.iload_n 1, 1) := by decide +kernel
theorem d_Plan_turnRing_87 : decode b_Plan_turnRing 87 = .ok (.bipush 9, 2) := by decide +kernel
theorem d_Plan_turnRing_89 : decode b_Plan_turnRing 89 = .ok (.imul, 1) := by decide +kernel
theorem d_Plan_turnRing_90 : decode b_Plan_turnRing 90 = .ok (.iload_n 3, 1) := by decide +kernel
theorem d_Plan_turnRing_91 : decode b_Plan_turnRing 91 = .ok (.iadd, 1) := by decide +kernel
theorem d_Plan_turnRing_92 : decode b_Plan_turnRing 92 = .ok (.dup2, 1) := by decide +kernel
theorem d_Plan_turnRing_93 : decode b_Plan_turnRing 93 = .ok (.laload, 1) := by decide +kernel
theorem d_Plan_turnRing_94 : decode b_Plan_turnRing 94 = .ok (.lload 4, 2) := by decide +kernel
theorem d_Plan_turnRing_96 : decode b_Plan_turnRing 96 = .ok (.lsub, 1) := by decide +kernel
theorem d_Plan_turnRing_97 : decode b_Plan_turnRing 97 = .ok (.lastore, 1) := by decide +kernel
theorem d_Plan_turnRing_98 : decode b_Plan_turnRing 98 = .ok (.iload_n 3, 1) := by decide +kernel
theorem d_Plan_turnRing_99 : decode b_Plan_turnRing 99 = .ok (.istore 6, 2) := by decide +kernel
theorem d_Plan_turnRing_101 : decode b_Plan_turnRing 101 = .ok (.iconst 0, 1) := by decide +kernel
theorem d_Plan_turnRing_102 : decode b_Plan_turnRing 102 = .ok (.istore 7, 2) := by decide +kernel
theorem d_Plan_turnRing_104 : decode b_Plan_turnRing 104 = .ok (.iload 7, 2) := by decide +kernel
theorem d_Plan_turnRing_106 : decode b_Plan_turnRing 106 = .ok (.bipush 12, 2) := by decide +kernel
theorem d_Plan_turnRing_108 : decode b_Plan_turnRing 108 = .ok (.if_icmp .ge 75, 3) := by decide +kernel
theorem d_Plan_turnRing_111 : decode b_Plan_turnRing 111 = .ok (.iload 6, 2) := by decide +kernel
theorem d_Plan_turnRing_113 : decode b_Plan_turnRing 113 = .ok (.iload_n 2, 1) := by decide +kernel
theorem d_Plan_turnRing_114 : decode b_Plan_turnRing 114 = .ok (.if_icmp .eq 69, 3) := by decide +kernel
theorem d_Plan_turnRing_117 : decode b_Plan_turnRing 117 = .ok (.aload_n 0, 1) := by decide +kernel
theorem d_Plan_turnRing_118 : decode b_Plan_turnRing 118 = .ok (.getfield 33, 3) := by decide +kernel
theorem d_Plan_turnRing_121 : decode b_Plan_turnRing 121 = .ok (.bipush 12, 2) := by decide +kernel
theorem d_Plan_turnRing_123 : decode b_Plan_turnRing 123 = .ok (.iload 6, 2) := by decide +kernel
theorem d_Plan_turnRing_125 : decode b_Plan_turnRing 125 = .ok (.iadd, 1) := by decide +kernel
theorem d_Plan_turnRing_126 : decode b_Plan_turnRing 126 = .ok (.iaload, 1) := by decide +kernel
theorem d_Plan_turnRing_127 : decode b_Plan_turnRing 127 = .ok (.istore 8, 2) := by decide +kernel
theorem d_Plan_turnRing_129 : decode b_Plan_turnRing 129 = .ok (.aload_n 0, 1) := by decide +kernel
theorem d_Plan_turnRing_130 : decode b_Plan_turnRing 130 = .ok (.getfield 17, 3) := by decide +kernel
theorem d_Plan_turnRing_133 : decode b_Plan_turnRing 133 = .ok (.iload 8, 2) := by decide +kernel
theorem d_Plan_turnRing_135 : decode b_Plan_turnRing 135 = .ok (.bipush 9, 2) := by decide +kernel
theorem d_Plan_turnRing_137 : decode b_Plan_turnRing 137 = .ok (.imul, 1) := by decide +kernel
theorem d_Plan_turnRing_138 : decode b_Plan_turnRing 138 = .ok (.iload 6, 2) := by decide +kernel
theorem d_Plan_turnRing_140 : decode b_Plan_turnRing 140 = .ok (.iadd, 1) := by decide +kernel
theorem d_Plan_turnRing_141 : decode b_Plan_turnRing 141 = .ok (.dup2, 1) := by decide +kernel
theorem d_Plan_turnRing_142 : decode b_Plan_turnRing 142 = .ok (.laload, 1) := by decide +kernel
theorem d_Plan_turnRing_143 : decode b_Plan_turnRing 143 = .ok (.lload 4, 2) := by decide +kernel
theorem d_Plan_turnRing_145 : decode b_Plan_turnRing 145 = .ok (.ladd, 1) := by decide +kernel
theorem d_Plan_turnRing_146 : decode b_Plan_turnRing 146 = .ok (.lastore, 1) := by decide +kernel
theorem d_Plan_turnRing_147 : decode b_Plan_turnRing 147 = .ok (.aload_n 0, 1) := by decide +kernel
theorem d_Plan_turnRing_148 : decode b_Plan_turnRing 148 = .ok (.getfield 33, 3) := by decide +kernel
theorem d_Plan_turnRing_151 : decode b_Plan_turnRing 151 = .ok (.iload 8, 2) := by decide +kernel
theorem d_Plan_turnRing_153 : decode b_Plan_turnRing 153 = .ok (.iaload, 1) := by decide +kernel
theorem d_Plan_turnRing_154 : decode b_Plan_turnRing 154 = .ok (.bipush 12, 2) := by decide +kernel
theorem d_Plan_turnRing_156 : decode b_Plan_turnRing 156 = .ok (.isub, 1) := by decide +kernel
theorem d_Plan_turnRing_157 : decode b_Plan_turnRing 157 = .ok (.istore 6, 2) := by decide +kernel
theorem d_Plan_turnRing_159 : decode b_Plan_turnRing 159 = .ok (.aload_n 0, 1) := by decide +kernel
theorem d_Plan_turnRing_160 : decode b_Plan_turnRing 160 = .ok (.getfield 17, 3) := by decide +kernel
theorem d_Plan_turnRing_163 : decode b_Plan_turnRing 163 = .ok (.iload 8, 2) := by decide +kernel
theorem d_Plan_turnRing_165 : decode b_Plan_turnRing 165 = .ok (.bipush 9, 2) := by decide +kernel
theorem d_Plan_turnRing_167 : decode b_Plan_turnRing 167 = .ok (.imul, 1) := by decide +kernel
theorem d_Plan_turnRing_168 : decode b_Plan_turnRing 168 = .ok (.iload 6, 2) := by decide +kernel
theorem d_Plan_turnRing_170 : decode b_Plan_turnRing 170 = .ok (.iadd, 1) := by decide +kernel
theorem d_Plan_turnRing_171 : decode b_Plan_turnRing 171 = .ok (.dup2, 1) := by decide +kernel
theorem d_Plan_turnRing_172 : decode b_Plan_turnRing 172 = .ok (.laload, 1) := by decide +kernel
theorem d_Plan_turnRing_173 : decode b_Plan_turnRing 173 = .ok (.lload 4, 2) := by decide +kernel
theorem d_Plan_turnRing_175 : decode b_Plan_turnRing 175 = .ok (.lsub, 1) := by decide +kernel
theorem d_Plan_turnRing_176 : decode b_Plan_turnRing 176 = .ok (.lastore, 1) := by decide +kernel
theorem d_Plan_turnRing_177 : decode b_Plan_turnRing 177 = .ok (.iinc 7 1, 3) := by decide +kernel
theorem d_Plan_turnRing_180 : decode b_Plan_turnRing 180 = .ok (.goto (-76), 3) := by decide +kernel
theorem d_Plan_turnRing_183 : decode b_Plan_turnRing 183 = .ok (.aload_n 0, 1) := by decide +kernel
theorem d_Plan_turnRing_184 : decode b_Plan_turnRing 184 = .ok (.getfield 17, 3) := by decide +kernel
theorem d_Plan_turnRing_187 : decode b_Plan_turnRing 187 = .ok (.iload_n 1, 1) := by decide +kernel
theorem d_Plan_turnRing_188 : decode b_Plan_turnRing 188 = .ok (.bipush 9, 2) := by decide +kernel
theorem d_Plan_turnRing_190 : decode b_Plan_turnRing 190 = .ok (.imul, 1) := by decide +kernel
theorem d_Plan_turnRing_191 : decode b_Plan_turnRing 191 = .ok (.iload_n 2, 1) := by decide +kernel
theorem d_Plan_turnRing_192 : decode b_Plan_turnRing 192 = .ok (.iadd, 1) := by decide +kernel
theorem d_Plan_turnRing_193 : decode b_Plan_turnRing 193 = .ok (.dup2, 1) := by decide +kernel
theorem d_Plan_turnRing_194 : decode b_Plan_turnRing 194 = .ok (.laload, 1) := by decide +kernel
theorem d_Plan_turnRing_195 : decode b_Plan_turnRing 195 = .ok (.lload 4, 2) := by decide +kernel
theorem d_Plan_turnRing_197 : decode b_Plan_turnRing 197 = .ok (.ladd, 1) := by decide +kernel
theorem d_Plan_turnRing_198 : decode b_Plan_turnRing 198 = .ok (.lastore, 1) := by decide +kernel
theorem d_Plan_turnRing_199 : decode b_Plan_turnRing 199 = .ok (.return_, 1) := by decide +kernel
abbrev b_Plan_raise : ByteArray := prog_2_method_23_code
def y_Plan_raise : MethodName := ⟨R_Plan, "raise", "(II)V"⟩
def u_Plan_raise : List Cond := Cond.code y_Plan_raise b_Plan_raise 5 none :: wG
theorem d_Plan_raise_0 : decode b_Plan_raise 0 = .ok (.iconst 0, 1) := by decide +kernel
theorem d_Plan_raise_1 : decode b_Plan_raise 1 = .ok (.istore_n 3, 1) := by decide +kernel
theorem d_Plan_raise_2 : decode b_Plan_raise 2 = .ok (.iload_n 3, 1) := by decide +kernel
theorem d_Plan_raise_3 : decode b_Plan_raise 3 = .ok (.ldc 116, 2) := by decide +kernel
theorem d_Plan_raise_5 : decode b_Plan_raise 5 = .ok (.if_icmp .ge 31, 3) := by decide +kernel
theorem d_Plan_raise_8 : decode b_Plan_raise 8 = .ok (.aload_n 0, 1) := by decide +kernel
theorem d_Plan_raise_9 : decode b_Plan_raise 9 = .ok (.iload_n 1, 1) := by decide +kernel
theorem d_Plan_raise_10 : decode b_Plan_raise 10 = .ok (.iload_n 2, 1) := by decide +kernel
theorem d_Plan_raise_11 : decode b_Plan_raise 11 = .ok (.invokevirtual 156, 3) := by decide +kernel
theorem d_Plan_raise_14 : decode b_Plan_raise 14 = .ok (.istore 4, 2) := by decide +kernel
theorem d_Plan_raise_16 : decode b_Plan_raise 16 = .ok (.iload 4, 2) := by decide +kernel
theorem d_Plan_raise_18 : decode b_Plan_raise 18 = .ok (.ifCond .ge 4, 3) := by decide +kernel
theorem d_Plan_raise_21 : decode b_Plan_raise 21 = .ok (.return_, 1) := by decide +kernel
theorem d_Plan_raise_22 : decode b_Plan_raise 22 = .ok (.aload_n 0, 1) := by decide +kernel
theorem d_Plan_raise_23 : decode b_Plan_raise 23 = .ok (.iload_n 1, 1) := by decide +kernel
theorem d_Plan_raise_24 : decode b_Plan_raise 24 = .ok (.iload_n 2, 1) := by decide +kernel
theorem d_Plan_raise_25 : decode b_Plan_raise 25 = .ok (.iload 4, 2) := by decide +kernel
theorem d_Plan_raise_27 : decode b_Plan_raise 27 = .ok (.invokevirtual 160, 3) := by decide +kernel
theorem d_Plan_raise_30 : decode b_Plan_raise 30 = .ok (.iinc 3 1, 3) := by decide +kernel
theorem d_Plan_raise_33 : decode b_Plan_raise 33 = .ok (.goto (-31), 3) := by decide +kernel
theorem d_Plan_raise_36 : decode b_Plan_raise 36 = .ok (.return_, 1) := by decide +kernel
abbrev b_Plan_makeCheapest : ByteArray := prog_2_method_11_code
def y_Plan_makeCheapest : MethodName := ⟨R_Plan, "makeCheapest", "(I)Z"⟩
def u_Plan_makeCheapest : List Cond := Cond.code y_Plan_makeCheapest b_Plan_makeCheapest 3 (some .boolean) :: wG
theorem d_Plan_makeCheapest_0 : decode b_Plan_makeCheapest 0 = .ok (.aload_n 0, 1) := by decide +kernel
theorem d_Plan_makeCheapest_1 : decode b_Plan_makeCheapest 1 = .ok (.iload_n 1, 1) := by decide +kernel
theorem d_Plan_makeCheapest_2 : decode b_Plan_makeCheapest 2 = .ok (.invokevirtual 84, 3) := by decide +kernel
theorem d_Plan_makeCheapest_5 : decode b_Plan_makeCheapest 5 = .ok (.iconst 0, 1) := by decide +kernel
theorem d_Plan_makeCheapest_6 : decode b_Plan_makeCheapest 6 = .ok (.istore_n 2, 1) := by decide +kernel
theorem d_Plan_makeCheapest_7 : decode b_Plan_makeCheapest 7 = .ok (.iload_n 2, 1) := by decide +kernel
theorem d_Plan_makeCheapest_8 : decode b_Plan_makeCheapest 8 = .ok (.aload_n 0, 1) := by decide +kernel
theorem d_Plan_makeCheapest_9 : decode b_Plan_makeCheapest 9 = .ok (.getfield 48, 3) := by decide +kernel
theorem d_Plan_makeCheapest_12 : decode b_Plan_makeCheapest 12 = .ok (.if_icmp .ge 19, 3) := by decide +kernel
theorem d_Plan_makeCheapest_15 : decode b_Plan_makeCheapest 15 = .ok (.aload_n 0, 1) := by decide +kernel
theorem d_Plan_makeCheapest_16 : decode b_Plan_makeCheapest 16 = .ok (.iload_n 2, 1) := by decide +kernel
theorem d_Plan_makeCheapest_17 : decode b_Plan_makeCheapest 17 = .ok (.invokevirtual 88, 3) := by decide +kernel
theorem d_Plan_makeCheapest_20 : decode b_Plan_makeCheapest 20 = .ok (.ifCond .ne 5, 3) := by decide +kernel
theorem d_Plan_makeCheapest_23 : decode b_Plan_makeCheapest 23 = .ok (.iconst 0, 1) := by decide +kernel
theorem d_Plan_makeCheapest_24 : decode b_Plan_makeCheapest 24 = .ok (.ireturn, 1) := by decide +kernel
theorem d_Plan_makeCheapest_25 : decode b_Plan_makeCheapest 25 = .ok (.iinc 2 1, 3) := by decide +kernel
theorem d_Plan_makeCheapest_28 : decode b_Plan_makeCheapest 28 = .ok (.goto (-21), 3) := by decide +kernel
theorem d_Plan_makeCheapest_31 : decode b_Plan_makeCheapest 31 = .ok (.iconst 1, 1) := by decide +kernel
theorem d_Plan_makeCheapest_32 : decode b_Plan_makeCheapest 32 = .ok (.ireturn, 1) := by decide +kernel
/-- what a look for a ring answers: -1, or a column behind the fill from which something can be taken, that hangs on the fill; the queue stays within its nodes -/
def hp_rfound (x1 x2 : Nat) (load : Nat → Int64) (r : Int32 × (Nat) × (Nat → Nat) × (Nat → Int32)) : Prop := (r.1 = -1 ∧ ∀ i, r.2.2.1 i < 21) ∨ ∃ c, c < 9 ∧ r.1 = nI c ∧ x2 < c ∧ ¬ load (x1 * 9 + c) ≤ 0 ∧ r.2.2.2 (12 + c) ≠ -1 ∧ hp_bfs (12 + x2) r.2.1 r.2.2.1 r.2.2.2
theorem hp_find27 {x1 x2 VP0 : Nat} {LP0 LP1 LP2 LP3 : Nat → Int64} (h12 : VP0 ≤ 12) : ∀ (n x3 q : Nat) (qu : Nat → Nat) (bef : Nat → Int32), hp_bfs (12 + x2) q qu bef → hp_rfound x1 x2 LP1 (f_Plan_findRing_h27 x2 VP0 LP1 x1 LP0 LP2 LP3 f_Plan_findRing_x27 n x3 q qu bef) := by
  intro n
  induction n with
  | zero =>
    intro x3 q qu bef h
    exact Or.inl ⟨rfl, h.2.1⟩
  | succ n ih =>
    intro x3 q qu bef h
    rw [f_Plan_findRing_h27]
    unfold f_Plan_findRing_h27B
    by_cases c1 : q ≤ x3
    · rw [if_pos c1]
      exact Or.inl ⟨rfl, h.2.1⟩
    · rw [if_neg c1]
      by_cases c2 : 21 ≤ x3
      · rw [if_pos c2]
        exact Or.inl ⟨rfl, h.2.1⟩
      · rw [if_neg c2]
        have hq := h.2.1 x3
        have hnb := h.2.2.1 x3 (by omega)
        by_cases c3 : 12 ≤ qu x3
        · rw [if_pos c3]
          have hnb' : bef (12 + (qu x3 - 12)) ≠ -1 := by
            rw [show 12 + (qu x3 - 12) = qu x3 by omega]
            exact hnb
          have e := hp_bfs_givers LP1 (x2 := x1 + 1) h12 (show qu x3 - 12 < 9 by omega) h hnb'
          by_cases c4 : qu x3 - 12 ≤ x2
          · rw [if_pos c4, hh_bind]
            exact ih _ _ _ _ e
          · rw [if_neg c4]
            by_cases c5 : LP1 (x1 * 9 + (qu x3 - 12)) ≤ 0
            · rw [if_pos c5, hh_bind]
              exact ih _ _ _ _ e
            · rw [if_neg c5]
              exact Or.inr ⟨qu x3 - 12, by omega, rfl, by omega, c5, hnb', h⟩
        · rw [if_neg c3, hh_bind]
          exact ih _ _ _ _ (hp_bfs_columns LP0 LP2 LP3 (by omega) h hnb)
theorem f_Plan_findRing_found {VP0 : Nat} {NP0 : Nat → Nat} (LP0 LP1 LP2 LP3 : Nat → Int64) (IP1 : Nat → Int32) (x1 x2 : Nat) (h12 : VP0 ≤ 12) (hq : ∀ i, NP0 i < 21) (hx : x2 < 8) : hp_rfound x1 x2 LP1 (f_Plan_findRing VP0 NP0 LP0 LP1 LP2 LP3 IP1 x1 x2) := by
  unfold f_Plan_findRing
  rw [hh_bind]
  exact hp_find27 h12 22 0 _ _ _ (hp_bfs_start IP1 (by omega) hq)
theorem hp_rfound_q {x1 x2 : Nat} {load : Nat → Int64} {r : Int32 × (Nat) × (Nat → Nat) × (Nat → Int32)} (h : hp_rfound x1 x2 load r) : ∀ i, r.2.2.1 i < 21 := by
  rcases h with ⟨-, h⟩ | ⟨c, -, -, -, -, -, h⟩
  · exact h
  · exact h.2.1
theorem hp_rfound_c {x1 x2 : Nat} {load : Nat → Int64} {r : Int32 × (Nat) × (Nat → Nat) × (Nat → Int32)} (h : hp_rfound x1 x2 load r) (h0 : 0 ≤ r.1) : r.1.toNatClampNeg < 9 ∧ r.2.2.2 (12 + r.1.toNatClampNeg) ≠ -1 ∧ hp_bfs (12 + x2) r.2.1 r.2.2.1 r.2.2.2 := by
  rcases h with ⟨e, -⟩ | ⟨c, hc, e, -, -, hb, h⟩
  · rw [e] at h0
    exact absurd h0 (by decide)
  · rw [e, nI_clamp (show c < 2 ^ 31 by omega)]
    exact ⟨hc, hb, h⟩
theorem hp_cring {x2 q : Nat} {qu : Nat → Nat} {bef : Nat → Int32} (h : hp_bfs (12 + x2) q qu bef) : ∀ c, (c < 9 ∧ bef (12 + c) ≠ -1) → c < 9 ∧ (c = x2 ∨ ∃ o c0, o < 12 ∧ bef (12 + c) = nI o ∧ bef o = nI (12 + c0) ∧ (c0 < 9 ∧ bef (12 + c0) ≠ -1)) := by
  intro c hc
  refine ⟨hc.1, ?_⟩
  rcases h.2.2.2 (12 + c) (by omega) hc.2 with e | ⟨o, ho, e, hb, hp⟩
  · exact Or.inl (by omega)
  · have ho12 : o < 12 := by
      rcases Nat.lt_or_ge o 12 with z | z
      · exact z
      · exact absurd (hp.mpr z) (by omega)
    rcases h.2.2.2 o ho hb with e2 | ⟨u, hu, e2, hb2, hp2⟩
    · omega
    · have hu12 : 12 ≤ u := hp2.mp ho12
      exact Or.inr ⟨o, u - 12, ho12, e, by rw [show 12 + (u - 12) = u by omega]; exact e2, by omega, by rw [show 12 + (u - 12) = u by omega]; exact hb2⟩
theorem hp_clear101 {VS2 VS0 : Nat} {NS0 NS1 NS2 : Nat → Nat} {IS0 : Nat → Int32} {x2 : Nat} {LS1 LS2 LS3 LS5 : Nat → Int64} {VY0 : Nat} {LY0 LY1 LY2 : Nat → Int64} {IY0 : Nat → Int32} {x1 : Int32} {k : Nat → (Nat → Int64) → (Nat) × (Nat) × (Nat → Int64) × (Nat → Int64) × (Nat → Int64) × (Nat → Int64)} :
    ∀ (n x4 : Nat) (L0 : Nat → Int64), ∃ a b, f_Plan_clear_h101 VS2 VS0 NS0 NS1 NS2 IS0 x2 LS1 LS2 LS3 LS5 VY0 LY0 LY1 LY2 IY0 x1 k n x4 L0 = k a b := by
  intro n
  induction n with
  | zero => exact fun x4 L0 => ⟨_, _, rfl⟩
  | succ n ih =>
    intro x4 L0
    rw [f_Plan_clear_h101]
    unfold f_Plan_clear_h101B
    by_cases c1 : VS2 ≤ x4
    · rw [if_pos c1]
      exact ⟨_, _, rfl⟩
    · rw [if_neg c1, hh_bind]
      by_cases c2 : f_Site_serves VS0 NS0 NS1 NS2 IS0 x2 x4 = 0
      · rw [if_pos c2]
        exact ih _ _
      · rw [if_neg c2, hh_bind]
        exact ih _ _
theorem hp_clear58 {y5 VS0 : Nat} {NS0 : Nat → Nat} {LS0 LS6 LS7 : Nat → Int64} {VS2 : Nat} {NS1 NS2 : Nat → Nat} {IS0 : Nat → Int32} {LS1 LS2 LS3 LS5 : Nat → Int64} {VY0 : Nat} {LY0 LY1 LY2 : Nat → Int64} {IY0 : Nat → Int32} {x1 : Int32} {k : Nat → (Nat → Int64) → (Nat → Int64) → (Nat) × (Nat) × (Nat → Int64) × (Nat → Int64) × (Nat → Int64) × (Nat → Int64)} :
    ∀ (n x2 : Nat) (L0 L1 : Nat → Int64), ∃ a b c, f_Plan_clear_h58 y5 VS0 NS0 LS0 LS6 LS7 VS2 NS1 NS2 IS0 LS1 LS2 LS3 LS5 VY0 LY0 LY1 LY2 IY0 x1 k n x2 L0 L1 = k a b c := by
  intro n
  induction n with
  | zero => exact fun x2 L0 L1 => ⟨_, _, _, rfl⟩
  | succ n ih =>
    intro x2 L0 L1
    rw [f_Plan_clear_h58]
    unfold f_Plan_clear_h58B
    by_cases c1 : y5 ≤ x2
    · rw [if_pos c1]
      exact ⟨_, _, _, rfl⟩
    · rw [if_neg c1, hh_bind]
      obtain ⟨a, b, e⟩ := hp_clear101 (VS2 := VS2) (VS0 := VS0) (NS0 := NS0) (NS1 := NS1) (NS2 := NS2) (IS0 := IS0) (x2 := x2) (LS1 := LS1) (LS2 := LS2) (LS3 := LS3) (LS5 := LS5) (VY0 := VY0) (LY0 := LY0) (LY1 := LY1) (LY2 := LY2) (IY0 := IY0) (x1 := x1)
        (k := f_Plan_clear_x101 (fun x2_58 LP0_58 LP1_58 => f_Plan_clear_h58 y5 VS0 NS0 LS0 LS6 LS7 VS2 NS1 NS2 IS0 LS1 LS2 LS3 LS5 VY0 LY0 LY1 LY2 IY0 x1 k n x2_58 LP0_58 LP1_58) x2 L1 (f_Site_capacity VS0 NS0 LS0 LS6 LS7 x2)) 9 0 (vp_updL L0 (x2 * 9 + 8) 0)
      rw [e]
      unfold f_Plan_clear_x101
      exact ih _ _ _
theorem f_Plan_clear_vs (LP0 LP1 LP2 LP3 : Nat → Int64) (VS0 VS1 VS2 : Nat) (NS0 NS1 NS2 : Nat → Nat) (LS0 LS1 LS2 LS3 LS5 LS6 LS7 : Nat → Int64) (IS0 : Nat → Int32) (VY0 : Nat) (LY0 LY1 LY2 : Nat → Int64) (IY0 : Nat → Int32) (x1 : Int32) :
    (f_Plan_clear LP0 LP1 LP2 LP3 VS0 VS1 VS2 NS0 NS1 NS2 LS0 LS1 LS2 LS3 LS5 LS6 LS7 IS0 VY0 LY0 LY1 LY2 IY0 x1).1 = VS0 + VS1 ∧ (f_Plan_clear LP0 LP1 LP2 LP3 VS0 VS1 VS2 NS0 NS1 NS2 LS0 LS1 LS2 LS3 LS5 LS6 LS7 IS0 VY0 LY0 LY1 LY2 IY0 x1).2.1 = VS2 := by
  unfold f_Plan_clear
  rw [hh_bind]
  obtain ⟨a, b, c, e⟩ := hp_clear58 (y5 := f_Site_sources VS0 VS1) (VS0 := VS0) (NS0 := NS0) (LS0 := LS0) (LS6 := LS6) (LS7 := LS7) (VS2 := VS2) (NS1 := NS1) (NS2 := NS2) (IS0 := IS0) (LS1 := LS1) (LS2 := LS2) (LS3 := LS3) (LS5 := LS5) (VY0 := VY0) (LY0 := LY0) (LY1 := LY1) (LY2 := LY2) (IY0 := IY0) (x1 := x1) (k := f_Plan_clear_x58 (f_Site_sources VS0 VS1) VS2 LP2 LP3) 13 0 (hh_fillJ 108 LP0 (-1)) (hh_fillJ 108 LP1 0)
  rw [e]
  exact ⟨rfl, rfl⟩
def f_Plan_turnRing_h104B (x2 : Nat) (IP1 : Nat → Int32) (x4_19 : Int64) (k_104 : (Nat) → (Nat) → (Nat → Int64) → (Nat → Int64)) (rec_104 : (Nat) → (Nat) → (Nat → Int64) → (Nat → Int64)) (x6_104 : Nat) (x7_104 : Nat) (LP1_104 : Nat → Int64) : (Nat → Int64) :=
  if 12 ≤ x7_104 then (k_104 x6_104 x7_104 LP1_104) else (if x6_104 = x2 then (k_104 x6_104 x7_104 LP1_104) else (rec_104 (((IP1 ((IP1 (12 + x6_104)).toNatClampNeg)) - (nI 12)).toNatClampNeg) (x7_104 + 1) (vp_updL (vp_updL LP1_104 ((((IP1 (12 + x6_104)).toNatClampNeg) * 9) + x6_104) ((LP1_104 ((((IP1 (12 + x6_104)).toNatClampNeg) * 9) + x6_104)) + x4_19)) ((((IP1 (12 + x6_104)).toNatClampNeg) * 9) + (((IP1 ((IP1 (12 + x6_104)).toNatClampNeg)) - (nI 12)).toNatClampNeg)) (((vp_updL LP1_104 ((((IP1 (12 + x6_104)).toNatClampNeg) * 9) + x6_104) ((LP1_104 ((((IP1 (12 + x6_104)).toNatClampNeg) * 9) + x6_104)) + x4_19)) ((((IP1 (12 + x6_104)).toNatClampNeg) * 9) + (((IP1 ((IP1 (12 + x6_104)).toNatClampNeg)) - (nI 12)).toNatClampNeg))) - x4_19))))
def f_Plan_turnRing_h104 (x2 : Nat) (IP1 : Nat → Int32) (x4_19 : Int64) (k_104 : (Nat) → (Nat) → (Nat → Int64) → (Nat → Int64)) : Nat → (Nat) → (Nat) → (Nat → Int64) → (Nat → Int64)
  | 0, x6_104, x7_104, LP1_104 => k_104 x6_104 x7_104 LP1_104
  | n + 1, x6_104, x7_104, LP1_104 => f_Plan_turnRing_h104B x2 IP1 x4_19 k_104 (fun x6_104 x7_104 LP1_104 => f_Plan_turnRing_h104 x2 IP1 x4_19 k_104 n x6_104 x7_104 LP1_104) x6_104 x7_104 LP1_104
def f_Plan_turnRing_x104 (x1 : Nat) (x2 : Nat) (x4_19 : Int64) (x6_104 : Nat) (x7_104 : Nat) (LP1_104 : Nat → Int64) : (Nat → Int64) :=
  (vp_updL LP1_104 ((x1 * 9) + x2) ((LP1_104 ((x1 * 9) + x2)) + x4_19))
def f_Plan_turnRing_h19B (x2 : Nat) (LP1 : Nat → Int64) (IP1 : Nat → Int32) (k_19 : (Int64) → (Nat) → (Nat) → (Nat → Int64)) (rec_19 : (Int64) → (Nat) → (Nat) → (Nat → Int64)) (x4_19 : Int64) (x6_19 : Nat) (x7_19 : Nat) : (Nat → Int64) :=
  if 12 ≤ x7_19 then (k_19 x4_19 x6_19 x7_19) else (if x6_19 = x2 then (k_19 x4_19 x6_19 x7_19) else (rec_19 (hh_min x4_19 (LP1 ((((IP1 (12 + x6_19)).toNatClampNeg) * 9) + (((IP1 ((IP1 (12 + x6_19)).toNatClampNeg)) - (nI 12)).toNatClampNeg)))) (((IP1 ((IP1 (12 + x6_19)).toNatClampNeg)) - (nI 12)).toNatClampNeg) (x7_19 + 1)))
def f_Plan_turnRing_h19 (x2 : Nat) (LP1 : Nat → Int64) (IP1 : Nat → Int32) (k_19 : (Int64) → (Nat) → (Nat) → (Nat → Int64)) : Nat → (Int64) → (Nat) → (Nat) → (Nat → Int64)
  | 0, x4_19, x6_19, x7_19 => k_19 x4_19 x6_19 x7_19
  | n + 1, x4_19, x6_19, x7_19 => f_Plan_turnRing_h19B x2 LP1 IP1 k_19 (fun x4_19 x6_19 x7_19 => f_Plan_turnRing_h19 x2 LP1 IP1 k_19 n x4_19 x6_19 x7_19) x4_19 x6_19 x7_19
def f_Plan_turnRing_x19 (x2 : Nat) (IP1 : Nat → Int32) (x1 : Nat) (x3 : Nat) (LP1 : Nat → Int64) (x4_19 : Int64) (x6_19 : Nat) (x7_19 : Nat) : (Nat → Int64) :=
  f_Plan_turnRing_h104 x2 IP1 x4_19 (f_Plan_turnRing_x104 x1 x2 x4_19) 13 x3 0 (vp_updL LP1 ((x1 * 9) + x3) ((LP1 ((x1 * 9) + x3)) - x4_19))
def f_Plan_turnRing (LP1 : Nat → Int64) (IP1 : Nat → Int32) (x1 : Nat) (x2 : Nat) (x3 : Nat) : (Nat → Int64) :=
  f_Plan_turnRing_h19 x2 LP1 IP1 (f_Plan_turnRing_x19 x2 IP1 x1 x3 LP1) 13 (LP1 ((x1 * 9) + x3)) x3 0
set_option maxHeartbeats 4000000 in
set_option maxRecDepth 100000 in
theorem c_Plan_turnRing (l : Launch) (dC : Nat → ClassId) (dI : Nat → Nat → Nat) (cI cJ cZ : ClassId) (sz : Nat) (aP : Nat → Nat) (VP0 : Nat) (VP1 : Nat) (VP2 : Nat) (NP0 : Nat → Nat) (LP0 : Nat → Int64) (LP1 : Nat → Int64) (LP2 : Nat → Int64) (LP3 : Nat → Int64) (LP4 : Nat → Int64) (IP0 : Nat → Int32) (IP1 : Nat → Int32) (aS : Nat → Nat) (VS0 : Nat) (VS1 : Nat) (VS2 : Nat) (NS0 : Nat → Nat) (NS1 : Nat → Nat) (NS2 : Nat → Nat) (LS0 : Nat → Int64) (LS1 : Nat → Int64) (LS2 : Nat → Int64) (LS3 : Nat → Int64) (LS4 : Nat → Int64) (LS5 : Nat → Int64) (LS6 : Nat → Int64) (LS7 : Nat → Int64) (LS8 : Nat → Int64) (IS0 : Nat → Int32) (aY : Nat → Nat) (VY0 : Nat) (LY0 : Nat → Int64) (LY1 : Nat → Int64) (LY2 : Nat → Int64) (IY0 : Nat → Int32) (x1 : Nat) (x2 : Nat) (x3 : Nat) (hx1 : x1 < 12) (hx2 : x2 < 9) (hx3 : x3 < 9) (Cc : Nat → Prop) (hCc : ∀ c, Cc c → c < 9 ∧ (c = x2 ∨ ∃ o0 c0, o0 < 12 ∧ IP1 (12 + c) = nI o0 ∧ IP1 o0 = nI (12 + c0) ∧ Cc c0)) (hla : Cc x3) : hh_Cv l y_Plan_turnRing u_Plan_turnRing ({ frames := 1, cells := 0, slots := 0, locals := 23 }) (dC, dI) vwCl [(cI, .int), (cJ, .long), (cZ, .boolean)] (w_P cI cJ cZ aP VP0 VP1 VP2 NP0 LP0 LP1 LP2 LP3 LP4 IP0 IP1 aS ++ w_S cI cJ cZ aS VS0 VS1 VS2 NS0 NS1 NS2 LS0 LS1 LS2 LS3 LS4 LS5 LS6 LS7 LS8 IS0 aY ++ w_Y cI cJ cZ aY VY0 LY0 LY1 LY2 IY0) sz [.ref (aP 0), .int (nI x1), .int (nI x2), .int (nI x3)] (w_P cI cJ cZ aP VP0 VP1 VP2 NP0 LP0 (f_Plan_turnRing LP1 IP1 x1 x2 x3) LP2 LP3 LP4 IP0 IP1 aS ++ w_S cI cJ cZ aS VS0 VS1 VS2 NS0 NS1 NS2 LS0 LS1 LS2 LS3 LS4 LS5 LS6 LS7 LS8 IS0 aY ++ w_Y cI cJ cZ aY VY0 LY0 LY1 LY2 IY0) 0 0 := by
  unfold hh_Cv
  refine Met.ofW (cc := b_Plan_turnRing) (maxL := 9) (ret := none) (by decide) rfl ?_
  intro p e s m args below meth c s₁ B hml hv
  obtain ⟨rfl, hsz, hP, hK, hD0⟩ := hv
  have hx := B.exec
  have hb := B.bytes
  have hr := B.returns
  have hts := atoms_spec (ws := u_Plan_turnRing) B.pre
  have hG : ∀ w ∈ wG, w.before ([.ref (aP 0), .int (nI x1), .int (nI x2), .int (nI x3)]).toArray s = true := fun w h => hts w (List.mem_cons_of_mem _ h)
  have hown : s.vm.findClass R_Plan = some m.cls := findClass_of_methodNamed B.named
  have hlocks := B.notSynchronized
  subst hsz
  have hD := hD0.self (sz := s.heap.size)
  generalize hAe : va_A (w_P cI cJ cZ aP VP0 VP1 VP2 NP0 LP0 LP1 LP2 LP3 LP4 IP0 IP1 aS ++ w_S cI cJ cZ aS VS0 VS1 VS2 NS0 NS1 NS2 LS0 LS1 LS2 LS3 LS4 LS5 LS6 LS7 LS8 IS0 aY ++ w_Y cI cJ cZ aY VY0 LY0 LY1 LY2 IY0) s.heap.size = A at hD ⊢
  have hA : ∀ q : Nat, s.heap.size ≤ q → A q := fun q h => by rw [← hAe]; exact Or.inr h
  have hS : va_S A s.heap s.heap [] := va_S.rf
  have hl := lv_entry ([.ref (aP 0), .int (nI x1), .int (nI x2), .int (nI x3)]) (n := 9) (Nat.le_of_ble_eq_true rfl)
  rw [lg_entry_eq]
  generalize (lg_sl ([.ref (aP 0), .int (nI x1), .int (nI x2), .int (nI x3)]) ++ List.replicate (9 - (lg_sl ([.ref (aP 0), .int (nI x1), .int (nI x2), .int (nI x3)])).length) Slot.unset).toArray = ls at hl ⊢
  have hl : lv_has ls 9 [(0, .ref (aP 0)), (1, .int (nI x1)), (2, .int (nI x2)), (3, .int (nI x3))] := hl
  generalize hR : f_Plan_turnRing LP1 IP1 x1 x2 x3 = r0
  obtain ⟨H, locs, hHe, hle⟩ : ∃ (H : Heap) (locs : List Loc), s.heap = H ∧ [] = locs := ⟨_, _, rfl, rfl⟩
  have hP : va_P (dC, dI) vwCl (w_P cI cJ cZ aP VP0 VP1 VP2 NP0 LP0 LP1 LP2 LP3 LP4 IP0 IP1 aS ++ w_S cI cJ cZ aS VS0 VS1 VS2 NS0 NS1 NS2 LS0 LS1 LS2 LS3 LS4 LS5 LS6 LS7 LS8 IS0 aY ++ w_Y cI cJ cZ aY VY0 LY0 LY1 LY2 IY0) H := by rw [← hHe]; exact hP
  have hS : va_S A s.heap H locs := by rw [← hHe, ← hle]; exact hS
  refine hw_start hHe hle ?_
  unfold f_Plan_turnRing at hR
  refine lv_aload_n hx hb d_Plan_turnRing_0 rfl (lv_at hl 0 rfl) ?_
  refine va_get (D := (dC, dI)) (ci := 0) (v := .ref (aP 2)) (C := R_Plan) (T := T_Plan) (N := 12) hx hb hG in_Plan hown hK hP 0 rfl rfl 4 (by decide) (hG _ m_135) (fun _ h9 => h9) rfl d_Plan_turnRing_1 ?_
  refine lv_iload_n hx hb d_Plan_turnRing_4 rfl (lv_at hl 1 rfl) ?_
  refine lv_bipush (v := nI 9) hx hb d_Plan_turnRing_5 (by decide) ?_
  refine hw_imul hx hb d_Plan_turnRing_7 ?_
  refine lv_iload_n hx hb d_Plan_turnRing_8 rfl (lv_at hl 3 rfl) ?_
  refine hw_iadd hx hb d_Plan_turnRing_9 ?_
  refine hw_lald (f := LP1) hx hb hK hP 2 1 rfl rfl (by decide) (by omega) d_Plan_turnRing_10 ?_
  refine lv_lstore (lv' := [(4, .long (LP1 ((x1 * 9) + x3))), (0, .ref (aP 0)), (1, .int (nI x1)), (2, .int (nI x2)), (3, .int (nI x3))]) hx hb d_Plan_turnRing_11 hl (by decide) rfl (fun ls hl => ?_)
  refine lv_iload_n hx hb d_Plan_turnRing_13 rfl (lv_at hl 4 rfl) ?_
  refine lv_istore (lv' := [(6, .int (nI x3)), (4, .long (LP1 ((x1 * 9) + x3))), (0, .ref (aP 0)), (1, .int (nI x1)), (2, .int (nI x2)), (3, .int (nI x3))]) hx hb d_Plan_turnRing_14 hl (by decide) rfl (fun ls hl => ?_)
  refine lv_iconst (v := nI 0) hx hb d_Plan_turnRing_16 (by decide) ?_
  refine lv_istore (lv' := [(7, .int (nI 0)), (6, .int (nI x3)), (4, .long (LP1 ((x1 * 9) + x3))), (0, .ref (aP 0)), (1, .int (nI x1)), (2, .int (nI x2)), (3, .int (nI x3))]) hx hb d_Plan_turnRing_17 hl (by decide) rfl (fun ls hl => ?_)
  obtain ⟨k_19, hk_19, hR⟩ : ∃ k, (f_Plan_turnRing_x19 x2 IP1 x1 x3 LP1) = k ∧ f_Plan_turnRing_h19 x2 LP1 IP1 k 13 (LP1 ((x1 * 9) + x3)) x3 0 = r0 := ⟨_, rfl, hR⟩
  have X_19 : ∀ (x4_19 : Int64) (x6_19 : Nat) (x7_19 : Nat) (hi : x7_19 ≤ 12) (hcc : Cc x6_19) (H : Heap) (locs : List Loc) (hP : va_P (dC, dI) vwCl (w_P cI cJ cZ aP VP0 VP1 VP2 NP0 LP0 LP1 LP2 LP3 LP4 IP0 IP1 aS ++ w_S cI cJ cZ aS VS0 VS1 VS2 NS0 NS1 NS2 LS0 LS1 LS2 LS3 LS4 LS5 LS6 LS7 LS8 IS0 aY ++ w_Y cI cJ cZ aY VY0 LY0 LY1 LY2 IY0) H) (hD : va_D A (w_P cI cJ cZ aP VP0 VP1 VP2 NP0 LP0 LP1 LP2 LP3 LP4 IP0 IP1 aS ++ w_S cI cJ cZ aS VS0 VS1 VS2 NS0 NS1 NS2 LS0 LS1 LS2 LS3 LS4 LS5 LS6 LS7 LS8 IS0 aY ++ w_Y cI cJ cZ aY VY0 LY0 LY1 LY2 IY0)) (hS : va_S A s.heap H locs) (ls : Array Slot) (hl : lv_has ls 9 [(0, .ref (aP 0)), (1, .int (nI x1)), (2, .int (nI x2)), (3, .int (nI x3)), (4, .long x4_19), (6, .int (nI x6_19)), (7, .int (nI x7_19))]) (hR : k_19 x4_19 x6_19 x7_19 = r0), W p l e (headSpec u_Plan_turnRing ({ frames := 1, cells := 0, slots := 0, locals := 23 })).room s m ([.ref (aP 0), .int (nI x1), .int (nI x2), .int (nI x3)]).toArray below meth c H locs 0 0 (hh_Zv below (dC, dI) vwCl [(cI, .int), (cJ, .long), (cZ, .boolean)] A (w_P cI cJ cZ aP VP0 VP1 VP2 NP0 LP0 r0 LP2 LP3 LP4 IP0 IP1 aS ++ w_S cI cJ cZ aS VS0 VS1 VS2 NS0 NS1 NS2 LS0 LS1 LS2 LS3 LS4 LS5 LS6 LS7 LS8 IS0 aY ++ w_Y cI cJ cZ aY VY0 LY0 LY1 LY2 IY0) ([.ref (aP 0), .int (nI x1), .int (nI x2), .int (nI x3)]).toArray s) (F0 m 82 ls []) := by
    intro x4_19 x6_19 x7_19 hi hcc H locs hP hD hS ls hl hR
    rw [← hk_19] at hR
    unfold f_Plan_turnRing_x19 at hR
    refine lv_aload_n hx hb d_Plan_turnRing_82 rfl (lv_at hl 0 rfl) ?_
    refine va_get (D := (dC, dI)) (ci := 0) (v := .ref (aP 2)) (C := R_Plan) (T := T_Plan) (N := 12) hx hb hG in_Plan hown hK hP 0 rfl rfl 4 (by decide) (hG _ m_135) (fun _ h9 => h9) rfl d_Plan_turnRing_83 ?_
    refine lv_iload_n hx hb d_Plan_turnRing_86 rfl (lv_at hl 1 rfl) ?_
    refine lv_bipush (v := nI 9) hx hb d_Plan_turnRing_87 (by decide) ?_
    refine hw_imul hx hb d_Plan_turnRing_89 ?_
    refine lv_iload_n hx hb d_Plan_turnRing_90 rfl (lv_at hl 3 rfl) ?_
    refine hw_iadd hx hb d_Plan_turnRing_91 ?_
    refine lv_dup2_11 hx hb d_Plan_turnRing_92 rfl rfl ?_
    refine hw_lald (f := LP1) hx hb hK hP 2 1 rfl rfl (by decide) (by omega) d_Plan_turnRing_93 ?_
    refine lv_lload hx hb d_Plan_turnRing_94 (lv_at hl 4 rfl) ?_
    refine lv_lsub hx hb d_Plan_turnRing_96 ?_
    refine hw_last (f := LP1) hx hb hK hP hD hS 2 1 rfl rfl (by decide) (by omega) d_Plan_turnRing_97 (fun H locs hP hD hS => ?_)
    have hP : va_P (dC, dI) vwCl (w_P cI cJ cZ aP VP0 VP1 VP2 NP0 LP0 (vp_updL LP1 ((x1 * 9) + x3) ((LP1 ((x1 * 9) + x3)) - x4_19)) LP2 LP3 LP4 IP0 IP1 aS ++ w_S cI cJ cZ aS VS0 VS1 VS2 NS0 NS1 NS2 LS0 LS1 LS2 LS3 LS4 LS5 LS6 LS7 LS8 IS0 aY ++ w_Y cI cJ cZ aY VY0 LY0 LY1 LY2 IY0) H := hP
    have hD : va_D A (w_P cI cJ cZ aP VP0 VP1 VP2 NP0 LP0 (vp_updL LP1 ((x1 * 9) + x3) ((LP1 ((x1 * 9) + x3)) - x4_19)) LP2 LP3 LP4 IP0 IP1 aS ++ w_S cI cJ cZ aS VS0 VS1 VS2 NS0 NS1 NS2 LS0 LS1 LS2 LS3 LS4 LS5 LS6 LS7 LS8 IS0 aY ++ w_Y cI cJ cZ aY VY0 LY0 LY1 LY2 IY0) := hD
    refine lv_iload_n hx hb d_Plan_turnRing_98 rfl (lv_at hl 3 rfl) ?_
    refine lv_istore (lv' := [(6, .int (nI x3)), (0, .ref (aP 0)), (1, .int (nI x1)), (2, .int (nI x2)), (3, .int (nI x3)), (4, .long x4_19), (7, .int (nI x7_19))]) hx hb d_Plan_turnRing_99 hl (by decide) rfl (fun ls hl => ?_)
    refine lv_iconst (v := nI 0) hx hb d_Plan_turnRing_101 (by decide) ?_
    refine lv_istore (lv' := [(7, .int (nI 0)), (6, .int (nI x3)), (0, .ref (aP 0)), (1, .int (nI x1)), (2, .int (nI x2)), (3, .int (nI x3)), (4, .long x4_19)]) hx hb d_Plan_turnRing_102 hl (by decide) rfl (fun ls hl => ?_)
    obtain ⟨k_104, hk_104, hR⟩ : ∃ k, (f_Plan_turnRing_x104 x1 x2 x4_19) = k ∧ f_Plan_turnRing_h104 x2 IP1 x4_19 k 13 x3 0 (vp_updL LP1 ((x1 * 9) + x3) ((LP1 ((x1 * 9) + x3)) - x4_19)) = r0 := ⟨_, rfl, hR⟩
    have X_104 : ∀ (x6_104 : Nat) (x7_104 : Nat) (LP1_104 : Nat → Int64) (hi : x7_104 ≤ 12) (hcc : Cc x6_104) (H : Heap) (locs : List Loc) (hP : va_P (dC, dI) vwCl (w_P cI cJ cZ aP VP0 VP1 VP2 NP0 LP0 LP1_104 LP2 LP3 LP4 IP0 IP1 aS ++ w_S cI cJ cZ aS VS0 VS1 VS2 NS0 NS1 NS2 LS0 LS1 LS2 LS3 LS4 LS5 LS6 LS7 LS8 IS0 aY ++ w_Y cI cJ cZ aY VY0 LY0 LY1 LY2 IY0) H) (hD : va_D A (w_P cI cJ cZ aP VP0 VP1 VP2 NP0 LP0 LP1_104 LP2 LP3 LP4 IP0 IP1 aS ++ w_S cI cJ cZ aS VS0 VS1 VS2 NS0 NS1 NS2 LS0 LS1 LS2 LS3 LS4 LS5 LS6 LS7 LS8 IS0 aY ++ w_Y cI cJ cZ aY VY0 LY0 LY1 LY2 IY0)) (hS : va_S A s.heap H locs) (ls : Array Slot) (hl : lv_has ls 9 [(0, .ref (aP 0)), (1, .int (nI x1)), (2, .int (nI x2)), (3, .int (nI x3)), (4, .long x4_19), (6, .int (nI x6_104)), (7, .int (nI x7_104))]) (hR : k_104 x6_104 x7_104 LP1_104 = r0), W p l e (headSpec u_Plan_turnRing ({ frames := 1, cells := 0, slots := 0, locals := 23 })).room s m ([.ref (aP 0), .int (nI x1), .int (nI x2), .int (nI x3)]).toArray below meth c H locs 0 0 (hh_Zv below (dC, dI) vwCl [(cI, .int), (cJ, .long), (cZ, .boolean)] A (w_P cI cJ cZ aP VP0 VP1 VP2 NP0 LP0 r0 LP2 LP3 LP4 IP0 IP1 aS ++ w_S cI cJ cZ aS VS0 VS1 VS2 NS0 NS1 NS2 LS0 LS1 LS2 LS3 LS4 LS5 LS6 LS7 LS8 IS0 aY ++ w_Y cI cJ cZ aY VY0 LY0 LY1 LY2 IY0) ([.ref (aP 0), .int (nI x1), .int (nI x2), .int (nI x3)]).toArray s) (F0 m 183 ls []) := by
      intro x6_104 x7_104 LP1_104 hi hcc H locs hP hD hS ls hl hR
      rw [← hk_104] at hR
      unfold f_Plan_turnRing_x104 at hR
      have hl6 := (hCc x6_104 hcc).1
      refine lv_aload_n hx hb d_Plan_turnRing_183 rfl (lv_at hl 0 rfl) ?_
      refine va_get (D := (dC, dI)) (ci := 0) (v := .ref (aP 2)) (C := R_Plan) (T := T_Plan) (N := 12) hx hb hG in_Plan hown hK hP 0 rfl rfl 4 (by decide) (hG _ m_135) (fun _ h9 => h9) rfl d_Plan_turnRing_184 ?_
      refine lv_iload_n hx hb d_Plan_turnRing_187 rfl (lv_at hl 1 rfl) ?_
      refine lv_bipush (v := nI 9) hx hb d_Plan_turnRing_188 (by decide) ?_
      refine hw_imul hx hb d_Plan_turnRing_190 ?_
      refine lv_iload_n hx hb d_Plan_turnRing_191 rfl (lv_at hl 2 rfl) ?_
      refine hw_iadd hx hb d_Plan_turnRing_192 ?_
      refine lv_dup2_11 hx hb d_Plan_turnRing_193 rfl rfl ?_
      refine hw_lald (f := LP1_104) hx hb hK hP 2 1 rfl rfl (by decide) (by omega) d_Plan_turnRing_194 ?_
      refine lv_lload hx hb d_Plan_turnRing_195 (lv_at hl 4 rfl) ?_
      refine lv_ladd hx hb d_Plan_turnRing_197 ?_
      refine hw_last (f := LP1_104) hx hb hK hP hD hS 2 1 rfl rfl (by decide) (by omega) d_Plan_turnRing_198 (fun H locs hP hD hS => ?_)
      have hP : va_P (dC, dI) vwCl (w_P cI cJ cZ aP VP0 VP1 VP2 NP0 LP0 (vp_updL LP1_104 ((x1 * 9) + x2) ((LP1_104 ((x1 * 9) + x2)) + x4_19)) LP2 LP3 LP4 IP0 IP1 aS ++ w_S cI cJ cZ aS VS0 VS1 VS2 NS0 NS1 NS2 LS0 LS1 LS2 LS3 LS4 LS5 LS6 LS7 LS8 IS0 aY ++ w_Y cI cJ cZ aY VY0 LY0 LY1 LY2 IY0) H := hP
      have hD : va_D A (w_P cI cJ cZ aP VP0 VP1 VP2 NP0 LP0 (vp_updL LP1_104 ((x1 * 9) + x2) ((LP1_104 ((x1 * 9) + x2)) + x4_19)) LP2 LP3 LP4 IP0 IP1 aS ++ w_S cI cJ cZ aS VS0 VS1 VS2 NS0 NS1 NS2 LS0 LS1 LS2 LS3 LS4 LS5 LS6 LS7 LS8 IS0 aY ++ w_Y cI cJ cZ aY VY0 LY0 LY1 LY2 IY0) := hD
      subst hR
      exact W.vret hx hb hr (fun t ht hW => ⟨⟨(), rfl, trivial, by rw [ht]; exact hP, va_K.moved hW.alike hK, hD⟩, hS.F ht⟩) hS.2.2 d_Plan_turnRing_199
    have L_104 : ∀ (n : Nat) (x6_104 : Nat) (x7_104 : Nat) (LP1_104 : Nat → Int64) (hi : x7_104 ≤ 12) (hcc : Cc x6_104) (hfu : 12 - x7_104 < n) (H : Heap) (locs : List Loc) (hP : va_P (dC, dI) vwCl (w_P cI cJ cZ aP VP0 VP1 VP2 NP0 LP0 LP1_104 LP2 LP3 LP4 IP0 IP1 aS ++ w_S cI cJ cZ aS VS0 VS1 VS2 NS0 NS1 NS2 LS0 LS1 LS2 LS3 LS4 LS5 LS6 LS7 LS8 IS0 aY ++ w_Y cI cJ cZ aY VY0 LY0 LY1 LY2 IY0) H) (hD : va_D A (w_P cI cJ cZ aP VP0 VP1 VP2 NP0 LP0 LP1_104 LP2 LP3 LP4 IP0 IP1 aS ++ w_S cI cJ cZ aS VS0 VS1 VS2 NS0 NS1 NS2 LS0 LS1 LS2 LS3 LS4 LS5 LS6 LS7 LS8 IS0 aY ++ w_Y cI cJ cZ aY VY0 LY0 LY1 LY2 IY0)) (hS : va_S A s.heap H locs) (ls : Array Slot) (hl : lv_has ls 9 [(0, .ref (aP 0)), (1, .int (nI x1)), (2, .int (nI x2)), (3, .int (nI x3)), (4, .long x4_19), (6, .int (nI x6_104)), (7, .int (nI x7_104))]) (hR : f_Plan_turnRing_h104 x2 IP1 x4_19 k_104 n x6_104 x7_104 LP1_104 = r0), W p l e (headSpec u_Plan_turnRing ({ frames := 1, cells := 0, slots := 0, locals := 23 })).room s m ([.ref (aP 0), .int (nI x1), .int (nI x2), .int (nI x3)]).toArray below meth c H locs 0 0 (hh_Zv below (dC, dI) vwCl [(cI, .int), (cJ, .long), (cZ, .boolean)] A (w_P cI cJ cZ aP VP0 VP1 VP2 NP0 LP0 r0 LP2 LP3 LP4 IP0 IP1 aS ++ w_S cI cJ cZ aS VS0 VS1 VS2 NS0 NS1 NS2 LS0 LS1 LS2 LS3 LS4 LS5 LS6 LS7 LS8 IS0 aY ++ w_Y cI cJ cZ aY VY0 LY0 LY1 LY2 IY0) ([.ref (aP 0), .int (nI x1), .int (nI x2), .int (nI x3)]).toArray s) (F0 m 104 ls []) := by
      intro n
      induction n with
      | zero =>
        intro x6_104 x7_104 LP1_104 hi hcc hfu H locs hP hD hS ls hl hR
        exact absurd hfu (Nat.not_lt_zero _)
      | succ n ih_104 =>
        intro x6_104 x7_104 LP1_104 hi hcc hfu H locs hP hD hS ls hl hR
        rw [f_Plan_turnRing_h104] at hR
        obtain ⟨rec_104, hrec_104, hR⟩ : ∃ r, r = _ ∧ f_Plan_turnRing_h104B x2 IP1 x4_19 k_104 r x6_104 x7_104 LP1_104 = r0 := ⟨_, rfl, hR⟩
        unfold f_Plan_turnRing_h104B at hR
        have hl6 := (hCc x6_104 hcc).1
        refine lv_iload hx hb d_Plan_turnRing_104 (lv_at hl 6 rfl) ?_
        refine lv_bipush (v := nI 12) hx hb d_Plan_turnRing_106 (by decide) ?_
        refine hw_icmp_ge (tgt := 183) hx hb d_Plan_turnRing_108 (by decide) (by omega) (by omega) (fun c108 => ?_) (fun c108 => ?_)
        · replace hR := (if_pos c108).symm.trans hR
          exact X_104 x6_104 x7_104 LP1_104 (by first | assumption | omega | exact hw_upb (by assumption) (by omega)) (by first | assumption | omega | exact hw_upb (by assumption) (by omega)) H locs hP hD hS ls (lv_sub hl [0, 1, 2, 3, 4, 5, 6] rfl) hR
        · replace hR := (if_neg c108).symm.trans hR
          refine lv_iload hx hb d_Plan_turnRing_111 (lv_at hl 5 rfl) ?_
          refine lv_iload_n hx hb d_Plan_turnRing_113 rfl (lv_at hl 2 rfl) ?_
          refine hw_icmp_eq (tgt := 183) hx hb d_Plan_turnRing_114 (by decide) (by omega) (by omega) (fun c114 => ?_) (fun c114 => ?_)
          · replace hR := (if_pos c114).symm.trans hR
            exact X_104 x6_104 x7_104 LP1_104 (by first | assumption | omega | exact hw_upb (by assumption) (by omega)) (by first | assumption | omega | exact hw_upb (by assumption) (by omega)) H locs hP hD hS ls (lv_sub hl [0, 1, 2, 3, 4, 5, 6] rfl) hR
          · replace hR := (if_neg c114).symm.trans hR
            obtain ⟨hl6, h42 | ⟨o0, c0, ho0, e1, e2, hc0⟩⟩ := hCc x6_104 hcc
            · exact absurd h42 c114
            have hc0l := (hCc c0 hc0).1
            have e3 : (IP1 (12 + x6_104)).toNatClampNeg = o0 := by rw [e1, nI_clamp (by omega)]
            have e5 : nI (12 + c0) - nI 12 = nI c0 := by rw [pk_sub (by omega), Nat.add_sub_cancel_left]
            have e4 : (IP1 (IP1 (12 + x6_104)).toNatClampNeg - nI 12).toNatClampNeg = c0 := by rw [e3, e2, e5, nI_clamp (by omega)]
            refine lv_aload_n hx hb d_Plan_turnRing_117 rfl (lv_at hl 0 rfl) ?_
            refine va_get (D := (dC, dI)) (ci := 0) (v := .ref (aP 7)) (C := R_Plan) (T := T_Plan) (N := 12) hx hb hG in_Plan hown hK hP 0 rfl rfl 9 (by decide) (hG _ m_140) (fun _ h9 => h9) rfl d_Plan_turnRing_118 ?_
            refine lv_bipush (v := nI 12) hx hb d_Plan_turnRing_121 (by decide) ?_
            refine lv_iload hx hb d_Plan_turnRing_123 (lv_at hl 5 rfl) ?_
            refine hw_iadd hx hb d_Plan_turnRing_125 ?_
            refine hw_iald (f := IP1) hx hb hK hP 7 0 rfl rfl (by decide) (by omega) d_Plan_turnRing_126 ?_
            refine lv_istore (lv' := [(8, .int (IP1 (12 + x6_104))), (0, .ref (aP 0)), (1, .int (nI x1)), (2, .int (nI x2)), (3, .int (nI x3)), (4, .long x4_19), (6, .int (nI x6_104)), (7, .int (nI x7_104))]) hx hb d_Plan_turnRing_127 hl (by decide) rfl (fun ls hl => ?_)
            have en129_8 : nI ((IP1 (12 + x6_104)).toNatClampNeg) = IP1 (12 + x6_104) := by rw [e1, nI_clamp (by omega)]
            have hl : lv_has ls 9 [(8, .int (nI ((IP1 (12 + x6_104)).toNatClampNeg))), (0, .ref (aP 0)), (1, .int (nI x1)), (2, .int (nI x2)), (3, .int (nI x3)), (4, .long x4_19), (6, .int (nI x6_104)), (7, .int (nI x7_104))] := by rw [en129_8]; exact hl
            refine lv_aload_n hx hb d_Plan_turnRing_129 rfl (lv_at hl 1 rfl) ?_
            refine va_get (D := (dC, dI)) (ci := 0) (v := .ref (aP 2)) (C := R_Plan) (T := T_Plan) (N := 12) hx hb hG in_Plan hown hK hP 0 rfl rfl 4 (by decide) (hG _ m_135) (fun _ h9 => h9) rfl d_Plan_turnRing_130 ?_
            refine lv_iload hx hb d_Plan_turnRing_133 (lv_at hl 0 rfl) ?_
            refine lv_bipush (v := nI 9) hx hb d_Plan_turnRing_135 (by decide) ?_
            refine hw_imul hx hb d_Plan_turnRing_137 ?_
            refine lv_iload hx hb d_Plan_turnRing_138 (lv_at hl 6 rfl) ?_
            refine hw_iadd hx hb d_Plan_turnRing_140 ?_
            refine lv_dup2_11 hx hb d_Plan_turnRing_141 rfl rfl ?_
            refine hw_lald (f := LP1_104) hx hb hK hP 2 1 rfl rfl (by decide) (by omega) d_Plan_turnRing_142 ?_
            refine lv_lload hx hb d_Plan_turnRing_143 (lv_at hl 5 rfl) ?_
            refine lv_ladd hx hb d_Plan_turnRing_145 ?_
            refine hw_last (f := LP1_104) hx hb hK hP hD hS 2 1 rfl rfl (by decide) (by omega) d_Plan_turnRing_146 (fun H locs hP hD hS => ?_)
            have hP : va_P (dC, dI) vwCl (w_P cI cJ cZ aP VP0 VP1 VP2 NP0 LP0 (vp_updL LP1_104 ((((IP1 (12 + x6_104)).toNatClampNeg) * 9) + x6_104) ((LP1_104 ((((IP1 (12 + x6_104)).toNatClampNeg) * 9) + x6_104)) + x4_19)) LP2 LP3 LP4 IP0 IP1 aS ++ w_S cI cJ cZ aS VS0 VS1 VS2 NS0 NS1 NS2 LS0 LS1 LS2 LS3 LS4 LS5 LS6 LS7 LS8 IS0 aY ++ w_Y cI cJ cZ aY VY0 LY0 LY1 LY2 IY0) H := hP
            have hD : va_D A (w_P cI cJ cZ aP VP0 VP1 VP2 NP0 LP0 (vp_updL LP1_104 ((((IP1 (12 + x6_104)).toNatClampNeg) * 9) + x6_104) ((LP1_104 ((((IP1 (12 + x6_104)).toNatClampNeg) * 9) + x6_104)) + x4_19)) LP2 LP3 LP4 IP0 IP1 aS ++ w_S cI cJ cZ aS VS0 VS1 VS2 NS0 NS1 NS2 LS0 LS1 LS2 LS3 LS4 LS5 LS6 LS7 LS8 IS0 aY ++ w_Y cI cJ cZ aY VY0 LY0 LY1 LY2 IY0) := hD
            refine lv_aload_n hx hb d_Plan_turnRing_147 rfl (lv_at hl 1 rfl) ?_
            refine va_get (D := (dC, dI)) (ci := 0) (v := .ref (aP 7)) (C := R_Plan) (T := T_Plan) (N := 12) hx hb hG in_Plan hown hK hP 0 rfl rfl 9 (by decide) (hG _ m_140) (fun _ h9 => h9) rfl d_Plan_turnRing_148 ?_
            refine lv_iload hx hb d_Plan_turnRing_151 (lv_at hl 0 rfl) ?_
            refine hw_iald (f := IP1) hx hb hK hP 7 0 rfl rfl (by decide) (by omega) d_Plan_turnRing_153 ?_
            refine lv_bipush (v := nI 12) hx hb d_Plan_turnRing_154 (by decide) ?_
            refine lv_isub hx hb d_Plan_turnRing_156 ?_
            refine lv_istore (lv' := [(6, .int ((IP1 ((IP1 (12 + x6_104)).toNatClampNeg)) - (nI 12))), (8, .int (nI ((IP1 (12 + x6_104)).toNatClampNeg))), (0, .ref (aP 0)), (1, .int (nI x1)), (2, .int (nI x2)), (3, .int (nI x3)), (4, .long x4_19), (7, .int (nI x7_104))]) hx hb d_Plan_turnRing_157 hl (by decide) rfl (fun ls hl => ?_)
            have en159_6 : nI (((IP1 ((IP1 (12 + x6_104)).toNatClampNeg)) - (nI 12)).toNatClampNeg) = (IP1 ((IP1 (12 + x6_104)).toNatClampNeg)) - (nI 12) := by rw [e3, e2, e5, nI_clamp (by omega)]
            have hl : lv_has ls 9 [(6, .int (nI (((IP1 ((IP1 (12 + x6_104)).toNatClampNeg)) - (nI 12)).toNatClampNeg))), (8, .int (nI ((IP1 (12 + x6_104)).toNatClampNeg))), (0, .ref (aP 0)), (1, .int (nI x1)), (2, .int (nI x2)), (3, .int (nI x3)), (4, .long x4_19), (7, .int (nI x7_104))] := by rw [en159_6]; exact hl
            refine lv_aload_n hx hb d_Plan_turnRing_159 rfl (lv_at hl 2 rfl) ?_
            refine va_get (D := (dC, dI)) (ci := 0) (v := .ref (aP 2)) (C := R_Plan) (T := T_Plan) (N := 12) hx hb hG in_Plan hown hK hP 0 rfl rfl 4 (by decide) (hG _ m_135) (fun _ h9 => h9) rfl d_Plan_turnRing_160 ?_
            refine lv_iload hx hb d_Plan_turnRing_163 (lv_at hl 1 rfl) ?_
            refine lv_bipush (v := nI 9) hx hb d_Plan_turnRing_165 (by decide) ?_
            refine hw_imul hx hb d_Plan_turnRing_167 ?_
            refine lv_iload hx hb d_Plan_turnRing_168 (lv_at hl 0 rfl) ?_
            refine hw_iadd hx hb d_Plan_turnRing_170 ?_
            refine lv_dup2_11 hx hb d_Plan_turnRing_171 rfl rfl ?_
            refine hw_lald (f := (vp_updL LP1_104 ((((IP1 (12 + x6_104)).toNatClampNeg) * 9) + x6_104) ((LP1_104 ((((IP1 (12 + x6_104)).toNatClampNeg) * 9) + x6_104)) + x4_19))) hx hb hK hP 2 1 rfl rfl (by decide) (by omega) d_Plan_turnRing_172 ?_
            refine lv_lload hx hb d_Plan_turnRing_173 (lv_at hl 6 rfl) ?_
            refine lv_lsub hx hb d_Plan_turnRing_175 ?_
            refine hw_last (f := (vp_updL LP1_104 ((((IP1 (12 + x6_104)).toNatClampNeg) * 9) + x6_104) ((LP1_104 ((((IP1 (12 + x6_104)).toNatClampNeg) * 9) + x6_104)) + x4_19))) hx hb hK hP hD hS 2 1 rfl rfl (by decide) (by omega) d_Plan_turnRing_176 (fun H locs hP hD hS => ?_)
            have hP : va_P (dC, dI) vwCl (w_P cI cJ cZ aP VP0 VP1 VP2 NP0 LP0 (vp_updL (vp_updL LP1_104 ((((IP1 (12 + x6_104)).toNatClampNeg) * 9) + x6_104) ((LP1_104 ((((IP1 (12 + x6_104)).toNatClampNeg) * 9) + x6_104)) + x4_19)) ((((IP1 (12 + x6_104)).toNatClampNeg) * 9) + (((IP1 ((IP1 (12 + x6_104)).toNatClampNeg)) - (nI 12)).toNatClampNeg)) (((vp_updL LP1_104 ((((IP1 (12 + x6_104)).toNatClampNeg) * 9) + x6_104) ((LP1_104 ((((IP1 (12 + x6_104)).toNatClampNeg) * 9) + x6_104)) + x4_19)) ((((IP1 (12 + x6_104)).toNatClampNeg) * 9) + (((IP1 ((IP1 (12 + x6_104)).toNatClampNeg)) - (nI 12)).toNatClampNeg))) - x4_19)) LP2 LP3 LP4 IP0 IP1 aS ++ w_S cI cJ cZ aS VS0 VS1 VS2 NS0 NS1 NS2 LS0 LS1 LS2 LS3 LS4 LS5 LS6 LS7 LS8 IS0 aY ++ w_Y cI cJ cZ aY VY0 LY0 LY1 LY2 IY0) H := hP
            have hD : va_D A (w_P cI cJ cZ aP VP0 VP1 VP2 NP0 LP0 (vp_updL (vp_updL LP1_104 ((((IP1 (12 + x6_104)).toNatClampNeg) * 9) + x6_104) ((LP1_104 ((((IP1 (12 + x6_104)).toNatClampNeg) * 9) + x6_104)) + x4_19)) ((((IP1 (12 + x6_104)).toNatClampNeg) * 9) + (((IP1 ((IP1 (12 + x6_104)).toNatClampNeg)) - (nI 12)).toNatClampNeg)) (((vp_updL LP1_104 ((((IP1 (12 + x6_104)).toNatClampNeg) * 9) + x6_104) ((LP1_104 ((((IP1 (12 + x6_104)).toNatClampNeg) * 9) + x6_104)) + x4_19)) ((((IP1 (12 + x6_104)).toNatClampNeg) * 9) + (((IP1 ((IP1 (12 + x6_104)).toNatClampNeg)) - (nI 12)).toNatClampNeg))) - x4_19)) LP2 LP3 LP4 IP0 IP1 aS ++ w_S cI cJ cZ aS VS0 VS1 VS2 NS0 NS1 NS2 LS0 LS1 LS2 LS3 LS4 LS5 LS6 LS7 LS8 IS0 aY ++ w_Y cI cJ cZ aY VY0 LY0 LY1 LY2 IY0) := hD
            refine lv_iinc (v := nI (x7_104 + 1)) (lv' := [(7, .int (nI (x7_104 + 1))), (6, .int (nI (((IP1 ((IP1 (12 + x6_104)).toNatClampNeg)) - (nI 12)).toNatClampNeg))), (8, .int (nI ((IP1 (12 + x6_104)).toNatClampNeg))), (0, .ref (aP 0)), (1, .int (nI x1)), (2, .int (nI x2)), (3, .int (nI x3)), (4, .long x4_19)]) hx hb d_Plan_turnRing_177 hl (k := 7) rfl (hw_inc _ 1) (by decide) rfl (fun ls hl => ?_)
            refine lv_goto (tgt := 104) hx hb d_Plan_turnRing_180 (by decide) ?_
            rw [hrec_104] at hR
            exact ih_104 (((IP1 ((IP1 (12 + x6_104)).toNatClampNeg)) - (nI 12)).toNatClampNeg) (x7_104 + 1) (vp_updL (vp_updL LP1_104 ((((IP1 (12 + x6_104)).toNatClampNeg) * 9) + x6_104) ((LP1_104 ((((IP1 (12 + x6_104)).toNatClampNeg) * 9) + x6_104)) + x4_19)) ((((IP1 (12 + x6_104)).toNatClampNeg) * 9) + (((IP1 ((IP1 (12 + x6_104)).toNatClampNeg)) - (nI 12)).toNatClampNeg)) (((vp_updL LP1_104 ((((IP1 (12 + x6_104)).toNatClampNeg) * 9) + x6_104) ((LP1_104 ((((IP1 (12 + x6_104)).toNatClampNeg) * 9) + x6_104)) + x4_19)) ((((IP1 (12 + x6_104)).toNatClampNeg) * 9) + (((IP1 ((IP1 (12 + x6_104)).toNatClampNeg)) - (nI 12)).toNatClampNeg))) - x4_19)) (by first | assumption | omega | exact hw_upb (by assumption) (by omega)) (by rw [e4]; exact hc0) (by omega) H locs hP hD hS ls (lv_sub hl [3, 4, 5, 6, 7, 1, 0] rfl) hR
    exact L_104 13 x3 0 (vp_updL LP1 ((x1 * 9) + x3) ((LP1 ((x1 * 9) + x3)) - x4_19)) (by first | assumption | omega | exact hw_upb (by assumption) (by omega)) (by first | assumption | omega | exact hw_upb (by assumption) (by omega)) (by omega) H locs hP hD hS ls (lv_sub hl [2, 3, 4, 5, 6, 1, 0] rfl) hR
  have L_19 : ∀ (n : Nat) (x4_19 : Int64) (x6_19 : Nat) (x7_19 : Nat) (hi : x7_19 ≤ 12) (hcc : Cc x6_19) (hfu : 12 - x7_19 < n) (H : Heap) (locs : List Loc) (hP : va_P (dC, dI) vwCl (w_P cI cJ cZ aP VP0 VP1 VP2 NP0 LP0 LP1 LP2 LP3 LP4 IP0 IP1 aS ++ w_S cI cJ cZ aS VS0 VS1 VS2 NS0 NS1 NS2 LS0 LS1 LS2 LS3 LS4 LS5 LS6 LS7 LS8 IS0 aY ++ w_Y cI cJ cZ aY VY0 LY0 LY1 LY2 IY0) H) (hD : va_D A (w_P cI cJ cZ aP VP0 VP1 VP2 NP0 LP0 LP1 LP2 LP3 LP4 IP0 IP1 aS ++ w_S cI cJ cZ aS VS0 VS1 VS2 NS0 NS1 NS2 LS0 LS1 LS2 LS3 LS4 LS5 LS6 LS7 LS8 IS0 aY ++ w_Y cI cJ cZ aY VY0 LY0 LY1 LY2 IY0)) (hS : va_S A s.heap H locs) (ls : Array Slot) (hl : lv_has ls 9 [(0, .ref (aP 0)), (1, .int (nI x1)), (2, .int (nI x2)), (3, .int (nI x3)), (4, .long x4_19), (6, .int (nI x6_19)), (7, .int (nI x7_19))]) (hR : f_Plan_turnRing_h19 x2 LP1 IP1 k_19 n x4_19 x6_19 x7_19 = r0), W p l e (headSpec u_Plan_turnRing ({ frames := 1, cells := 0, slots := 0, locals := 23 })).room s m ([.ref (aP 0), .int (nI x1), .int (nI x2), .int (nI x3)]).toArray below meth c H locs 0 0 (hh_Zv below (dC, dI) vwCl [(cI, .int), (cJ, .long), (cZ, .boolean)] A (w_P cI cJ cZ aP VP0 VP1 VP2 NP0 LP0 r0 LP2 LP3 LP4 IP0 IP1 aS ++ w_S cI cJ cZ aS VS0 VS1 VS2 NS0 NS1 NS2 LS0 LS1 LS2 LS3 LS4 LS5 LS6 LS7 LS8 IS0 aY ++ w_Y cI cJ cZ aY VY0 LY0 LY1 LY2 IY0) ([.ref (aP 0), .int (nI x1), .int (nI x2), .int (nI x3)]).toArray s) (F0 m 19 ls []) := by
    intro n
    induction n with
    | zero =>
      intro x4_19 x6_19 x7_19 hi hcc hfu H locs hP hD hS ls hl hR
      exact absurd hfu (Nat.not_lt_zero _)
    | succ n ih_19 =>
      intro x4_19 x6_19 x7_19 hi hcc hfu H locs hP hD hS ls hl hR
      rw [f_Plan_turnRing_h19] at hR
      obtain ⟨rec_19, hrec_19, hR⟩ : ∃ r, r = _ ∧ f_Plan_turnRing_h19B x2 LP1 IP1 k_19 r x4_19 x6_19 x7_19 = r0 := ⟨_, rfl, hR⟩
      unfold f_Plan_turnRing_h19B at hR
      have hl6 := (hCc x6_19 hcc).1
      refine lv_iload hx hb d_Plan_turnRing_19 (lv_at hl 6 rfl) ?_
      refine lv_bipush (v := nI 12) hx hb d_Plan_turnRing_21 (by decide) ?_
      refine hw_icmp_ge (tgt := 82) hx hb d_Plan_turnRing_23 (by decide) (by omega) (by omega) (fun c23 => ?_) (fun c23 => ?_)
      · replace hR := (if_pos c23).symm.trans hR
        exact X_19 x4_19 x6_19 x7_19 (by first | assumption | omega | exact hw_upb (by assumption) (by omega)) (by first | assumption | omega | exact hw_upb (by assumption) (by omega)) H locs hP hD hS ls (lv_sub hl [0, 1, 2, 3, 4, 5, 6] rfl) hR
      · replace hR := (if_neg c23).symm.trans hR
        refine lv_iload hx hb d_Plan_turnRing_26 (lv_at hl 5 rfl) ?_
        refine lv_iload_n hx hb d_Plan_turnRing_28 rfl (lv_at hl 2 rfl) ?_
        refine hw_icmp_eq (tgt := 82) hx hb d_Plan_turnRing_29 (by decide) (by omega) (by omega) (fun c29 => ?_) (fun c29 => ?_)
        · replace hR := (if_pos c29).symm.trans hR
          exact X_19 x4_19 x6_19 x7_19 (by first | assumption | omega | exact hw_upb (by assumption) (by omega)) (by first | assumption | omega | exact hw_upb (by assumption) (by omega)) H locs hP hD hS ls (lv_sub hl [0, 1, 2, 3, 4, 5, 6] rfl) hR
        · replace hR := (if_neg c29).symm.trans hR
          obtain ⟨hl6, h42 | ⟨o0, c0, ho0, e1, e2, hc0⟩⟩ := hCc x6_19 hcc
          · exact absurd h42 c29
          have hc0l := (hCc c0 hc0).1
          have e3 : (IP1 (12 + x6_19)).toNatClampNeg = o0 := by rw [e1, nI_clamp (by omega)]
          have e5 : nI (12 + c0) - nI 12 = nI c0 := by rw [pk_sub (by omega), Nat.add_sub_cancel_left]
          have e4 : (IP1 (IP1 (12 + x6_19)).toNatClampNeg - nI 12).toNatClampNeg = c0 := by rw [e3, e2, e5, nI_clamp (by omega)]
          refine lv_aload_n hx hb d_Plan_turnRing_32 rfl (lv_at hl 0 rfl) ?_
          refine va_get (D := (dC, dI)) (ci := 0) (v := .ref (aP 7)) (C := R_Plan) (T := T_Plan) (N := 12) hx hb hG in_Plan hown hK hP 0 rfl rfl 9 (by decide) (hG _ m_140) (fun _ h9 => h9) rfl d_Plan_turnRing_33 ?_
          refine lv_bipush (v := nI 12) hx hb d_Plan_turnRing_36 (by decide) ?_
          refine lv_iload hx hb d_Plan_turnRing_38 (lv_at hl 5 rfl) ?_
          refine hw_iadd hx hb d_Plan_turnRing_40 ?_
          refine hw_iald (f := IP1) hx hb hK hP 7 0 rfl rfl (by decide) (by omega) d_Plan_turnRing_41 ?_
          refine lv_istore (lv' := [(8, .int (IP1 (12 + x6_19))), (0, .ref (aP 0)), (1, .int (nI x1)), (2, .int (nI x2)), (3, .int (nI x3)), (4, .long x4_19), (6, .int (nI x6_19)), (7, .int (nI x7_19))]) hx hb d_Plan_turnRing_42 hl (by decide) rfl (fun ls hl => ?_)
          have en44_8 : nI ((IP1 (12 + x6_19)).toNatClampNeg) = IP1 (12 + x6_19) := by rw [e1, nI_clamp (by omega)]
          have hl : lv_has ls 9 [(8, .int (nI ((IP1 (12 + x6_19)).toNatClampNeg))), (0, .ref (aP 0)), (1, .int (nI x1)), (2, .int (nI x2)), (3, .int (nI x3)), (4, .long x4_19), (6, .int (nI x6_19)), (7, .int (nI x7_19))] := by rw [en44_8]; exact hl
          refine lv_aload_n hx hb d_Plan_turnRing_44 rfl (lv_at hl 1 rfl) ?_
          refine va_get (D := (dC, dI)) (ci := 0) (v := .ref (aP 7)) (C := R_Plan) (T := T_Plan) (N := 12) hx hb hG in_Plan hown hK hP 0 rfl rfl 9 (by decide) (hG _ m_140) (fun _ h9 => h9) rfl d_Plan_turnRing_45 ?_
          refine lv_iload hx hb d_Plan_turnRing_48 (lv_at hl 0 rfl) ?_
          refine hw_iald (f := IP1) hx hb hK hP 7 0 rfl rfl (by decide) (by omega) d_Plan_turnRing_50 ?_
          refine lv_bipush (v := nI 12) hx hb d_Plan_turnRing_51 (by decide) ?_
          refine lv_isub hx hb d_Plan_turnRing_53 ?_
          refine lv_istore (lv' := [(6, .int ((IP1 ((IP1 (12 + x6_19)).toNatClampNeg)) - (nI 12))), (8, .int (nI ((IP1 (12 + x6_19)).toNatClampNeg))), (0, .ref (aP 0)), (1, .int (nI x1)), (2, .int (nI x2)), (3, .int (nI x3)), (4, .long x4_19), (7, .int (nI x7_19))]) hx hb d_Plan_turnRing_54 hl (by decide) rfl (fun ls hl => ?_)
          have en56_6 : nI (((IP1 ((IP1 (12 + x6_19)).toNatClampNeg)) - (nI 12)).toNatClampNeg) = (IP1 ((IP1 (12 + x6_19)).toNatClampNeg)) - (nI 12) := by rw [e3, e2, e5, nI_clamp (by omega)]
          have hl : lv_has ls 9 [(6, .int (nI (((IP1 ((IP1 (12 + x6_19)).toNatClampNeg)) - (nI 12)).toNatClampNeg))), (8, .int (nI ((IP1 (12 + x6_19)).toNatClampNeg))), (0, .ref (aP 0)), (1, .int (nI x1)), (2, .int (nI x2)), (3, .int (nI x3)), (4, .long x4_19), (7, .int (nI x7_19))] := by rw [en56_6]; exact hl
          refine lv_lload hx hb d_Plan_turnRing_56 (lv_at hl 6 rfl) ?_
          refine lv_aload_n hx hb d_Plan_turnRing_58 rfl (lv_at hl 2 rfl) ?_
          refine va_get (D := (dC, dI)) (ci := 0) (v := .ref (aP 2)) (C := R_Plan) (T := T_Plan) (N := 12) hx hb hG in_Plan hown hK hP 0 rfl rfl 4 (by decide) (hG _ m_135) (fun _ h9 => h9) rfl d_Plan_turnRing_59 ?_
          refine lv_iload hx hb d_Plan_turnRing_62 (lv_at hl 1 rfl) ?_
          refine lv_bipush (v := nI 9) hx hb d_Plan_turnRing_64 (by decide) ?_
          refine hw_imul hx hb d_Plan_turnRing_66 ?_
          refine lv_iload hx hb d_Plan_turnRing_67 (lv_at hl 0 rfl) ?_
          refine hw_iadd hx hb d_Plan_turnRing_69 ?_
          refine hw_lald (f := LP1) hx hb hK hP 2 1 rfl rfl (by decide) (by omega) d_Plan_turnRing_70 ?_
          refine hw_mmin hx hb (hml.trans hl.1.symm) hown (hG _ m_425) (hG _ m_407) (hG _ m_12) (hG _ m_408) (Nat.le_of_ble_eq_true rfl) (Nat.le_of_ble_eq_true rfl) (Nat.zero_le _) (Nat.zero_le _) d_Plan_turnRing_71 ?_
          refine lv_lstore (lv' := [(4, .long (hh_min x4_19 (LP1 ((((IP1 (12 + x6_19)).toNatClampNeg) * 9) + (((IP1 ((IP1 (12 + x6_19)).toNatClampNeg)) - (nI 12)).toNatClampNeg))))), (6, .int (nI (((IP1 ((IP1 (12 + x6_19)).toNatClampNeg)) - (nI 12)).toNatClampNeg))), (8, .int (nI ((IP1 (12 + x6_19)).toNatClampNeg))), (0, .ref (aP 0)), (1, .int (nI x1)), (2, .int (nI x2)), (3, .int (nI x3)), (7, .int (nI x7_19))]) hx hb d_Plan_turnRing_74 hl (by decide) rfl (fun ls hl => ?_)
          refine lv_iinc (v := nI (x7_19 + 1)) (lv' := [(7, .int (nI (x7_19 + 1))), (4, .long (hh_min x4_19 (LP1 ((((IP1 (12 + x6_19)).toNatClampNeg) * 9) + (((IP1 ((IP1 (12 + x6_19)).toNatClampNeg)) - (nI 12)).toNatClampNeg))))), (6, .int (nI (((IP1 ((IP1 (12 + x6_19)).toNatClampNeg)) - (nI 12)).toNatClampNeg))), (8, .int (nI ((IP1 (12 + x6_19)).toNatClampNeg))), (0, .ref (aP 0)), (1, .int (nI x1)), (2, .int (nI x2)), (3, .int (nI x3))]) hx hb d_Plan_turnRing_76 hl (k := 7) rfl (hw_inc _ 1) (by decide) rfl (fun ls hl => ?_)
          refine lv_goto (tgt := 19) hx hb d_Plan_turnRing_79 (by decide) ?_
          rw [hrec_19] at hR
          exact ih_19 (hh_min x4_19 (LP1 ((((IP1 (12 + x6_19)).toNatClampNeg) * 9) + (((IP1 ((IP1 (12 + x6_19)).toNatClampNeg)) - (nI 12)).toNatClampNeg)))) (((IP1 ((IP1 (12 + x6_19)).toNatClampNeg)) - (nI 12)).toNatClampNeg) (x7_19 + 1) (by first | assumption | omega | exact hw_upb (by assumption) (by omega)) (by rw [e4]; exact hc0) (by omega) H locs hP hD hS ls (lv_sub hl [4, 5, 6, 7, 1, 2, 0] rfl) hR
  exact L_19 13 (LP1 ((x1 * 9) + x3)) x3 0 (by first | assumption | omega | exact hw_upb (by assumption) (by omega)) (by first | assumption | omega | exact hw_upb (by assumption) (by omega)) (by omega) H locs hP hD hS ls (lv_sub hl [3, 4, 5, 6, 2, 1, 0] rfl) hR
def f_Plan_raise_h2B (VP0 : Nat) (LP0 : Nat → Int64) (LP2 : Nat → Int64) (LP3 : Nat → Int64) (x1 : Nat) (x2 : Nat) (k_2 : (Nat) → (Nat → Int64) → (Nat) → (Nat → Nat) → (Nat → Int32) → (Nat → Int64) × (Nat) × (Nat → Nat) × (Nat → Int32)) (rec_2 : (Nat) → (Nat → Int64) → (Nat) → (Nat → Nat) → (Nat → Int32) → (Nat → Int64) × (Nat) × (Nat → Nat) × (Nat → Int32)) (x3_2 : Nat) (LP1_2 : Nat → Int64) (VP2_2 : Nat) (NP0_2 : Nat → Nat) (IP1_2 : Nat → Int32) : (Nat → Int64) × (Nat) × (Nat → Nat) × (Nat → Int32) :=
  if 1000000 ≤ x3_2 then (k_2 x3_2 LP1_2 VP2_2 NP0_2 IP1_2) else (hh_bind (f_Plan_findRing VP0 NP0_2 LP0 LP1_2 LP2 LP3 IP1_2 x1 x2) (fun y11 => if 0 ≤ y11.1 then (hh_bind (f_Plan_turnRing LP1_2 y11.2.2.2 x1 x2 y11.1.toNatClampNeg) (fun y27 => rec_2 (x3_2 + 1) y27 y11.2.1 y11.2.2.1 y11.2.2.2)) else (LP1_2, y11.2.1, y11.2.2.1, y11.2.2.2)))
def f_Plan_raise_h2 (VP0 : Nat) (LP0 : Nat → Int64) (LP2 : Nat → Int64) (LP3 : Nat → Int64) (x1 : Nat) (x2 : Nat) (k_2 : (Nat) → (Nat → Int64) → (Nat) → (Nat → Nat) → (Nat → Int32) → (Nat → Int64) × (Nat) × (Nat → Nat) × (Nat → Int32)) : Nat → (Nat) → (Nat → Int64) → (Nat) → (Nat → Nat) → (Nat → Int32) → (Nat → Int64) × (Nat) × (Nat → Nat) × (Nat → Int32)
  | 0, x3_2, LP1_2, VP2_2, NP0_2, IP1_2 => k_2 x3_2 LP1_2 VP2_2 NP0_2 IP1_2
  | n + 1, x3_2, LP1_2, VP2_2, NP0_2, IP1_2 => f_Plan_raise_h2B VP0 LP0 LP2 LP3 x1 x2 k_2 (fun x3_2 LP1_2 VP2_2 NP0_2 IP1_2 => f_Plan_raise_h2 VP0 LP0 LP2 LP3 x1 x2 k_2 n x3_2 LP1_2 VP2_2 NP0_2 IP1_2) x3_2 LP1_2 VP2_2 NP0_2 IP1_2
def f_Plan_raise_x2  (x3_2 : Nat) (LP1_2 : Nat → Int64) (VP2_2 : Nat) (NP0_2 : Nat → Nat) (IP1_2 : Nat → Int32) : (Nat → Int64) × (Nat) × (Nat → Nat) × (Nat → Int32) :=
  (LP1_2, VP2_2, NP0_2, IP1_2)
def f_Plan_raise (VP0 : Nat) (VP2 : Nat) (NP0 : Nat → Nat) (LP0 : Nat → Int64) (LP1 : Nat → Int64) (LP2 : Nat → Int64) (LP3 : Nat → Int64) (IP1 : Nat → Int32) (x1 : Nat) (x2 : Nat) : (Nat → Int64) × (Nat) × (Nat → Nat) × (Nat → Int32) :=
  f_Plan_raise_h2 VP0 LP0 LP2 LP3 x1 x2 f_Plan_raise_x2 1000001 0 LP1 VP2 NP0 IP1
set_option maxHeartbeats 4000000 in
set_option maxRecDepth 100000 in
theorem c_Plan_raise (l : Launch) (dC : Nat → ClassId) (dI : Nat → Nat → Nat) (cI cJ cZ : ClassId) (sz : Nat) (aP : Nat → Nat) (VP0 : Nat) (VP1 : Nat) (VP2 : Nat) (NP0 : Nat → Nat) (LP0 : Nat → Int64) (LP1 : Nat → Int64) (LP2 : Nat → Int64) (LP3 : Nat → Int64) (LP4 : Nat → Int64) (IP0 : Nat → Int32) (IP1 : Nat → Int32) (aS : Nat → Nat) (VS0 : Nat) (VS1 : Nat) (VS2 : Nat) (NS0 : Nat → Nat) (NS1 : Nat → Nat) (NS2 : Nat → Nat) (LS0 : Nat → Int64) (LS1 : Nat → Int64) (LS2 : Nat → Int64) (LS3 : Nat → Int64) (LS4 : Nat → Int64) (LS5 : Nat → Int64) (LS6 : Nat → Int64) (LS7 : Nat → Int64) (LS8 : Nat → Int64) (IS0 : Nat → Int32) (aY : Nat → Nat) (VY0 : Nat) (LY0 : Nat → Int64) (LY1 : Nat → Int64) (LY2 : Nat → Int64) (IY0 : Nat → Int32) (x1 : Nat) (x2 : Nat) (hs12 : VP0 ≤ 12) (hq : ∀ i, NP0 i < 21) (hx1 : x1 < 12) (hx2 : x2 < 8) : hh_Cv l y_Plan_raise u_Plan_raise ({ frames := 3, cells := 0, slots := 0, locals := 71 }) (dC, dI) vwCl [(cI, .int), (cJ, .long), (cZ, .boolean)] (w_P cI cJ cZ aP VP0 VP1 VP2 NP0 LP0 LP1 LP2 LP3 LP4 IP0 IP1 aS ++ w_S cI cJ cZ aS VS0 VS1 VS2 NS0 NS1 NS2 LS0 LS1 LS2 LS3 LS4 LS5 LS6 LS7 LS8 IS0 aY ++ w_Y cI cJ cZ aY VY0 LY0 LY1 LY2 IY0) sz [.ref (aP 0), .int (nI x1), .int (nI x2)] (w_P cI cJ cZ aP VP0 VP1 ((f_Plan_raise VP0 VP2 NP0 LP0 LP1 LP2 LP3 IP1 x1 x2).2.1) ((f_Plan_raise VP0 VP2 NP0 LP0 LP1 LP2 LP3 IP1 x1 x2).2.2.1) LP0 ((f_Plan_raise VP0 VP2 NP0 LP0 LP1 LP2 LP3 IP1 x1 x2).1) LP2 LP3 LP4 IP0 ((f_Plan_raise VP0 VP2 NP0 LP0 LP1 LP2 LP3 IP1 x1 x2).2.2.2) aS ++ w_S cI cJ cZ aS VS0 VS1 VS2 NS0 NS1 NS2 LS0 LS1 LS2 LS3 LS4 LS5 LS6 LS7 LS8 IS0 aY ++ w_Y cI cJ cZ aY VY0 LY0 LY1 LY2 IY0) 0 0 := by
  unfold hh_Cv
  refine Met.ofW (cc := b_Plan_raise) (maxL := 5) (ret := none) (by decide) rfl ?_
  intro p e s m args below meth c s₁ B hml hv
  obtain ⟨rfl, hsz, hP, hK, hD0⟩ := hv
  have hx := B.exec
  have hb := B.bytes
  have hr := B.returns
  have hts := atoms_spec (ws := u_Plan_raise) B.pre
  have hG : ∀ w ∈ wG, w.before ([.ref (aP 0), .int (nI x1), .int (nI x2)]).toArray s = true := fun w h => hts w (List.mem_cons_of_mem _ h)
  have hown : s.vm.findClass R_Plan = some m.cls := findClass_of_methodNamed B.named
  have hlocks := B.notSynchronized
  subst hsz
  have hD := hD0.self (sz := s.heap.size)
  generalize hAe : va_A (w_P cI cJ cZ aP VP0 VP1 VP2 NP0 LP0 LP1 LP2 LP3 LP4 IP0 IP1 aS ++ w_S cI cJ cZ aS VS0 VS1 VS2 NS0 NS1 NS2 LS0 LS1 LS2 LS3 LS4 LS5 LS6 LS7 LS8 IS0 aY ++ w_Y cI cJ cZ aY VY0 LY0 LY1 LY2 IY0) s.heap.size = A at hD ⊢
  have hA : ∀ q : Nat, s.heap.size ≤ q → A q := fun q h => by rw [← hAe]; exact Or.inr h
  have hS : va_S A s.heap s.heap [] := va_S.rf
  have hl := lv_entry ([.ref (aP 0), .int (nI x1), .int (nI x2)]) (n := 5) (Nat.le_of_ble_eq_true rfl)
  rw [lg_entry_eq]
  generalize (lg_sl ([.ref (aP 0), .int (nI x1), .int (nI x2)]) ++ List.replicate (5 - (lg_sl ([.ref (aP 0), .int (nI x1), .int (nI x2)])).length) Slot.unset).toArray = ls at hl ⊢
  have hl : lv_has ls 5 [(0, .ref (aP 0)), (1, .int (nI x1)), (2, .int (nI x2))] := hl
  generalize hR : f_Plan_raise VP0 VP2 NP0 LP0 LP1 LP2 LP3 IP1 x1 x2 = r0
  obtain ⟨H, locs, hHe, hle⟩ : ∃ (H : Heap) (locs : List Loc), s.heap = H ∧ [] = locs := ⟨_, _, rfl, rfl⟩
  have hP : va_P (dC, dI) vwCl (w_P cI cJ cZ aP VP0 VP1 VP2 NP0 LP0 LP1 LP2 LP3 LP4 IP0 IP1 aS ++ w_S cI cJ cZ aS VS0 VS1 VS2 NS0 NS1 NS2 LS0 LS1 LS2 LS3 LS4 LS5 LS6 LS7 LS8 IS0 aY ++ w_Y cI cJ cZ aY VY0 LY0 LY1 LY2 IY0) H := by rw [← hHe]; exact hP
  have hS : va_S A s.heap H locs := by rw [← hHe, ← hle]; exact hS
  refine hw_start hHe hle ?_
  unfold f_Plan_raise at hR
  refine lv_iconst (v := nI 0) hx hb d_Plan_raise_0 (by decide) ?_
  refine lv_istore_n (lv' := [(3, .int (nI 0)), (0, .ref (aP 0)), (1, .int (nI x1)), (2, .int (nI x2))]) hx hb d_Plan_raise_1 rfl hl (by decide) rfl (fun ls hl => ?_)
  obtain ⟨k_2, hk_2, hR⟩ : ∃ k, f_Plan_raise_x2 = k ∧ f_Plan_raise_h2 VP0 LP0 LP2 LP3 x1 x2 k 1000001 0 LP1 VP2 NP0 IP1 = r0 := ⟨_, rfl, hR⟩
  have X_2 : ∀ (x3_2 : Nat) (LP1_2 : Nat → Int64) (VP2_2 : Nat) (NP0_2 : Nat → Nat) (IP1_2 : Nat → Int32) (hi : x3_2 ≤ 1000000) (hq : ∀ i, NP0_2 i < 21) (H : Heap) (locs : List Loc) (hP : va_P (dC, dI) vwCl (w_P cI cJ cZ aP VP0 VP1 VP2_2 NP0_2 LP0 LP1_2 LP2 LP3 LP4 IP0 IP1_2 aS ++ w_S cI cJ cZ aS VS0 VS1 VS2 NS0 NS1 NS2 LS0 LS1 LS2 LS3 LS4 LS5 LS6 LS7 LS8 IS0 aY ++ w_Y cI cJ cZ aY VY0 LY0 LY1 LY2 IY0) H) (hD : va_D A (w_P cI cJ cZ aP VP0 VP1 VP2_2 NP0_2 LP0 LP1_2 LP2 LP3 LP4 IP0 IP1_2 aS ++ w_S cI cJ cZ aS VS0 VS1 VS2 NS0 NS1 NS2 LS0 LS1 LS2 LS3 LS4 LS5 LS6 LS7 LS8 IS0 aY ++ w_Y cI cJ cZ aY VY0 LY0 LY1 LY2 IY0)) (hS : va_S A s.heap H locs) (ls : Array Slot) (hl : lv_has ls 5 [(0, .ref (aP 0)), (1, .int (nI x1)), (2, .int (nI x2)), (3, .int (nI x3_2))]) (hR : k_2 x3_2 LP1_2 VP2_2 NP0_2 IP1_2 = r0), W p l e (headSpec u_Plan_raise ({ frames := 3, cells := 0, slots := 0, locals := 71 })).room s m ([.ref (aP 0), .int (nI x1), .int (nI x2)]).toArray below meth c H locs 0 0 (hh_Zv below (dC, dI) vwCl [(cI, .int), (cJ, .long), (cZ, .boolean)] A (w_P cI cJ cZ aP VP0 VP1 r0.2.1 r0.2.2.1 LP0 r0.1 LP2 LP3 LP4 IP0 r0.2.2.2 aS ++ w_S cI cJ cZ aS VS0 VS1 VS2 NS0 NS1 NS2 LS0 LS1 LS2 LS3 LS4 LS5 LS6 LS7 LS8 IS0 aY ++ w_Y cI cJ cZ aY VY0 LY0 LY1 LY2 IY0) ([.ref (aP 0), .int (nI x1), .int (nI x2)]).toArray s) (F0 m 36 ls []) := by
    intro x3_2 LP1_2 VP2_2 NP0_2 IP1_2 hi hq H locs hP hD hS ls hl hR
    rw [← hk_2] at hR
    unfold f_Plan_raise_x2 at hR
    subst hR
    exact W.vret hx hb hr (fun t ht hW => ⟨⟨(), rfl, trivial, by rw [ht]; exact hP, va_K.moved hW.alike hK, hD⟩, hS.F ht⟩) hS.2.2 d_Plan_raise_36
  have L_2 : ∀ (n : Nat) (x3_2 : Nat) (LP1_2 : Nat → Int64) (VP2_2 : Nat) (NP0_2 : Nat → Nat) (IP1_2 : Nat → Int32) (hi : x3_2 ≤ 1000000) (hq : ∀ i, NP0_2 i < 21) (hfu : 1000000 - x3_2 < n) (H : Heap) (locs : List Loc) (hP : va_P (dC, dI) vwCl (w_P cI cJ cZ aP VP0 VP1 VP2_2 NP0_2 LP0 LP1_2 LP2 LP3 LP4 IP0 IP1_2 aS ++ w_S cI cJ cZ aS VS0 VS1 VS2 NS0 NS1 NS2 LS0 LS1 LS2 LS3 LS4 LS5 LS6 LS7 LS8 IS0 aY ++ w_Y cI cJ cZ aY VY0 LY0 LY1 LY2 IY0) H) (hD : va_D A (w_P cI cJ cZ aP VP0 VP1 VP2_2 NP0_2 LP0 LP1_2 LP2 LP3 LP4 IP0 IP1_2 aS ++ w_S cI cJ cZ aS VS0 VS1 VS2 NS0 NS1 NS2 LS0 LS1 LS2 LS3 LS4 LS5 LS6 LS7 LS8 IS0 aY ++ w_Y cI cJ cZ aY VY0 LY0 LY1 LY2 IY0)) (hS : va_S A s.heap H locs) (ls : Array Slot) (hl : lv_has ls 5 [(0, .ref (aP 0)), (1, .int (nI x1)), (2, .int (nI x2)), (3, .int (nI x3_2))]) (hR : f_Plan_raise_h2 VP0 LP0 LP2 LP3 x1 x2 k_2 n x3_2 LP1_2 VP2_2 NP0_2 IP1_2 = r0), W p l e (headSpec u_Plan_raise ({ frames := 3, cells := 0, slots := 0, locals := 71 })).room s m ([.ref (aP 0), .int (nI x1), .int (nI x2)]).toArray below meth c H locs 0 0 (hh_Zv below (dC, dI) vwCl [(cI, .int), (cJ, .long), (cZ, .boolean)] A (w_P cI cJ cZ aP VP0 VP1 r0.2.1 r0.2.2.1 LP0 r0.1 LP2 LP3 LP4 IP0 r0.2.2.2 aS ++ w_S cI cJ cZ aS VS0 VS1 VS2 NS0 NS1 NS2 LS0 LS1 LS2 LS3 LS4 LS5 LS6 LS7 LS8 IS0 aY ++ w_Y cI cJ cZ aY VY0 LY0 LY1 LY2 IY0) ([.ref (aP 0), .int (nI x1), .int (nI x2)]).toArray s) (F0 m 2 ls []) := by
    intro n
    induction n with
    | zero =>
      intro x3_2 LP1_2 VP2_2 NP0_2 IP1_2 hi hq hfu H locs hP hD hS ls hl hR
      exact absurd hfu (Nat.not_lt_zero _)
    | succ n ih_2 =>
      intro x3_2 LP1_2 VP2_2 NP0_2 IP1_2 hi hq hfu H locs hP hD hS ls hl hR
      rw [f_Plan_raise_h2] at hR
      obtain ⟨rec_2, hrec_2, hR⟩ : ∃ r, r = _ ∧ f_Plan_raise_h2B VP0 LP0 LP2 LP3 x1 x2 k_2 r x3_2 LP1_2 VP2_2 NP0_2 IP1_2 = r0 := ⟨_, rfl, hR⟩
      unfold f_Plan_raise_h2B at hR
      refine lv_iload_n hx hb d_Plan_raise_2 rfl (lv_at hl 3 rfl) ?_
      refine lv_ldc (v := nI 1000000) hx hb hown (hG _ m_413) d_Plan_raise_3 ?_
      refine hw_icmp_ge (tgt := 36) hx hb d_Plan_raise_5 (by decide) (by omega) (by omega) (fun c5 => ?_) (fun c5 => ?_)
      · replace hR := (if_pos c5).symm.trans hR
        exact X_2 x3_2 LP1_2 VP2_2 NP0_2 IP1_2 (by first | assumption | omega | exact hw_upb (by assumption) (by omega)) (by first | assumption | omega | exact hw_upb (by assumption) (by omega)) H locs hP hD hS ls (lv_sub hl [0, 1, 2, 3] rfl) hR
      · replace hR := (if_neg c5).symm.trans hR
        refine lv_aload_n hx hb d_Plan_raise_8 rfl (lv_at hl 0 rfl) ?_
        refine lv_iload_n hx hb d_Plan_raise_9 rfl (lv_at hl 1 rfl) ?_
        refine lv_iload_n hx hb d_Plan_raise_10 rfl (lv_at hl 2 rfl) ?_
        obtain ⟨y11, hy11, hR⟩ := hw_bind hR
        have hM := c_Plan_findRing l dC dI cI cJ cZ H.size aP VP0 VP1 VP2_2 NP0_2 LP0 LP1_2 LP2 LP3 LP4 IP0 IP1_2 aS VS0 VS1 VS2 NS0 NS1 NS2 LS0 LS1 LS2 LS3 LS4 LS5 LS6 LS7 LS8 IS0 aY VY0 LY0 LY1 LY2 IY0 x1 x2 (by first | assumption | omega) (by first | assumption | omega) (by first | assumption | omega) (by first | assumption | omega)
        rw [hy11] at hM
        refine hw_callVi (As := [.int (nI x1), .int (nI x2)]) (rest := []) (wr := ([] : va_W)) ⟨hx, hb, hml, hown, hG⟩ hM (hw_cwV 2 hG m_560 m_562 mp_13 m_5 m_563 rfl rfl (by decide +kernel) ⟨Nat.le_of_ble_eq_true rfl, Nat.le_of_ble_eq_true rfl⟩) hK hP hD hS hA [0, 1, 2, 3, 4, 5, 6, 7, 8, 9, 10, 11, 12, 13, 14, 15, 16, 17, 18, 19, 20, 21, 22, 23, 24, 25, 26, 27] [] rfl rfl (by decide) (by decide) (by decide) (hw_recv hK hP 0 rfl rfl) rfl hl.1 rfl (Nat.le_of_ble_eq_true rfl) d_Plan_raise_11 ⟨Nat.le_of_ble_eq_true rfl, Nat.le_of_ble_eq_true rfl⟩ (fun H locs hP hD hS => ?_)
        have hP : va_P (dC, dI) vwCl (w_P cI cJ cZ aP VP0 VP1 y11.2.1 y11.2.2.1 LP0 LP1_2 LP2 LP3 LP4 IP0 y11.2.2.2 aS ++ w_S cI cJ cZ aS VS0 VS1 VS2 NS0 NS1 NS2 LS0 LS1 LS2 LS3 LS4 LS5 LS6 LS7 LS8 IS0 aY ++ w_Y cI cJ cZ aY VY0 LY0 LY1 LY2 IY0) H := hP
        have hD : va_D A (w_P cI cJ cZ aP VP0 VP1 y11.2.1 y11.2.2.1 LP0 LP1_2 LP2 LP3 LP4 IP0 y11.2.2.2 aS ++ w_S cI cJ cZ aS VS0 VS1 VS2 NS0 NS1 NS2 LS0 LS1 LS2 LS3 LS4 LS5 LS6 LS7 LS8 IS0 aY ++ w_Y cI cJ cZ aY VY0 LY0 LY1 LY2 IY0) := hD
        have hrf11 := f_Plan_findRing_found (NP0 := NP0_2) LP0 LP1_2 LP2 LP3 IP1_2 x1 x2 hs12 (by assumption) (by omega)
        rw [hy11] at hrf11
        have hrq11 := hp_rfound_q hrf11
        refine lv_istore (lv' := [(4, .int y11.1), (0, .ref (aP 0)), (1, .int (nI x1)), (2, .int (nI x2)), (3, .int (nI x3_2))]) hx hb d_Plan_raise_14 hl (by decide) rfl (fun ls hl => ?_)
        refine lv_iload hx hb d_Plan_raise_16 (lv_at hl 0 rfl) ?_
        refine lv_if_ge (tgt := 22) hx hb d_Plan_raise_18 (by decide) (fun c18 => ?_) (fun c18 => ?_)
        · replace hR := (if_pos c18).symm.trans hR
          have hrc := hp_rfound_c hrf11 c18
          have hrl := hrc.1
          have en22_4 : nI (y11.1.toNatClampNeg) = y11.1 := hw_nat0 (by assumption)
          have hl : lv_has ls 5 [(4, .int (nI y11.1.toNatClampNeg)), (0, .ref (aP 0)), (1, .int (nI x1)), (2, .int (nI x2)), (3, .int (nI x3_2))] := by rw [en22_4]; exact hl
          refine lv_aload_n hx hb d_Plan_raise_22 rfl (lv_at hl 1 rfl) ?_
          refine lv_iload_n hx hb d_Plan_raise_23 rfl (lv_at hl 2 rfl) ?_
          refine lv_iload_n hx hb d_Plan_raise_24 rfl (lv_at hl 3 rfl) ?_
          refine lv_iload hx hb d_Plan_raise_25 (lv_at hl 0 rfl) ?_
          obtain ⟨y27, hy27, hR⟩ := hw_bind hR
          have hM := c_Plan_turnRing l dC dI cI cJ cZ H.size aP VP0 VP1 y11.2.1 y11.2.2.1 LP0 LP1_2 LP2 LP3 LP4 IP0 y11.2.2.2 aS VS0 VS1 VS2 NS0 NS1 NS2 LS0 LS1 LS2 LS3 LS4 LS5 LS6 LS7 LS8 IS0 aY VY0 LY0 LY1 LY2 IY0 x1 x2 y11.1.toNatClampNeg (by first | assumption | omega) (by first | assumption | omega) (by first | assumption | omega) (fun c => c < 9 ∧ y11.2.2.2 (12 + c) ≠ -1) (hp_cring hrc.2.2) ⟨hrc.1, hrc.2.1⟩
          rw [hy27] at hM
          refine hw_callVv (As := [.int (nI x1), .int (nI x2), .int (nI y11.1.toNatClampNeg)]) (rest := []) (wr := ([] : va_W)) ⟨hx, hb, hml, hown, hG⟩ hM (hw_cwV 3 hG m_579 m_581 mp_17 m_5 m_582 rfl rfl (by decide +kernel) ⟨Nat.le_of_ble_eq_true rfl, Nat.le_of_ble_eq_true rfl⟩) hK hP hD hS hA [0, 1, 2, 3, 4, 5, 6, 7, 8, 9, 10, 11, 12, 13, 14, 15, 16, 17, 18, 19, 20, 21, 22, 23, 24, 25, 26, 27] [] rfl rfl (by decide) (by decide) (by decide) (hw_recv hK hP 0 rfl rfl) rfl hl.1 rfl (Nat.le_of_ble_eq_true rfl) d_Plan_raise_27 ⟨Nat.le_of_ble_eq_true rfl, Nat.le_of_ble_eq_true rfl⟩ (fun H locs hP hD hS => ?_)
          have hP : va_P (dC, dI) vwCl (w_P cI cJ cZ aP VP0 VP1 y11.2.1 y11.2.2.1 LP0 y27 LP2 LP3 LP4 IP0 y11.2.2.2 aS ++ w_S cI cJ cZ aS VS0 VS1 VS2 NS0 NS1 NS2 LS0 LS1 LS2 LS3 LS4 LS5 LS6 LS7 LS8 IS0 aY ++ w_Y cI cJ cZ aY VY0 LY0 LY1 LY2 IY0) H := hP
          have hD : va_D A (w_P cI cJ cZ aP VP0 VP1 y11.2.1 y11.2.2.1 LP0 y27 LP2 LP3 LP4 IP0 y11.2.2.2 aS ++ w_S cI cJ cZ aS VS0 VS1 VS2 NS0 NS1 NS2 LS0 LS1 LS2 LS3 LS4 LS5 LS6 LS7 LS8 IS0 aY ++ w_Y cI cJ cZ aY VY0 LY0 LY1 LY2 IY0) := hD
          refine lv_iinc (v := nI (x3_2 + 1)) (lv' := [(3, .int (nI (x3_2 + 1))), (4, .int (nI y11.1.toNatClampNeg)), (0, .ref (aP 0)), (1, .int (nI x1)), (2, .int (nI x2))]) hx hb d_Plan_raise_30 hl (k := 4) rfl (hw_inc _ 1) (by decide) rfl (fun ls hl => ?_)
          refine lv_goto (tgt := 2) hx hb d_Plan_raise_33 (by decide) ?_
          rw [hrec_2] at hR
          exact ih_2 (x3_2 + 1) y27 y11.2.1 y11.2.2.1 y11.2.2.2 (by first | assumption | omega | exact hw_upb (by assumption) (by omega)) (by first | assumption | omega | exact hw_upb (by assumption) (by omega)) (by omega) H locs hP hD hS ls (lv_sub hl [2, 3, 4, 0] rfl) hR
        · replace hR := (if_neg c18).symm.trans hR
          subst hR
          exact W.vret hx hb hr (fun t ht hW => ⟨⟨(), rfl, trivial, by rw [ht]; exact hP, va_K.moved hW.alike hK, hD⟩, hS.F ht⟩) hS.2.2 d_Plan_raise_21
  exact L_2 1000001 0 LP1 VP2 NP0 IP1 (by first | assumption | omega | exact hw_upb (by assumption) (by omega)) (by first | assumption | omega | exact hw_upb (by assumption) (by omega)) (by omega) H locs hP hD hS ls (lv_sub hl [1, 2, 3, 0] rfl) hR
def f_Plan_makeCheapest_h7B (y2 : (Nat) × (Nat) × (Nat → Int64) × (Nat → Int64) × (Nat → Int64) × (Nat → Int64)) (LS4 : Nat → Int64) (k_7 : (Nat) → (Nat → Int64) → (Nat → Int64) → (Nat → Int64) → (Nat → Int64) → (Nat → Int32) → (Nat → Int32) → Int32 × (Nat) × (Nat) × (Nat → Int64) × (Nat → Int64) × (Nat → Int64) × (Nat → Int64) × (Nat → Int64) × (Nat → Int32) × (Nat → Int32)) (rec_7 : (Nat) → (Nat → Int64) → (Nat → Int64) → (Nat → Int64) → (Nat → Int64) → (Nat → Int32) → (Nat → Int32) → Int32 × (Nat) × (Nat) × (Nat → Int64) × (Nat → Int64) × (Nat → Int64) × (Nat → Int64) × (Nat → Int64) × (Nat → Int32) × (Nat → Int32)) (x2_7 : Nat) (LP1_7 : Nat → Int64) (LP2_7 : Nat → Int64) (LP3_7 : Nat → Int64) (LP4_7 : Nat → Int64) (IP0_7 : Nat → Int32) (IP1_7 : Nat → Int32) : Int32 × (Nat) × (Nat) × (Nat → Int64) × (Nat → Int64) × (Nat → Int64) × (Nat → Int64) × (Nat → Int64) × (Nat → Int32) × (Nat → Int32) :=
  if y2.2.1 ≤ x2_7 then (k_7 x2_7 LP1_7 LP2_7 LP3_7 LP4_7 IP0_7 IP1_7) else (hh_bind (f_Plan_serve y2.1 y2.2.1 y2.2.2.1 LP1_7 LP2_7 LP3_7 LP4_7 IP0_7 IP1_7 LS4 x2_7) (fun y17 => if y17.1 = 0 then (nI 0, y2.1, y2.2.1, y2.2.2.1, y17.2.1, y17.2.2.1, y17.2.2.2.1, y17.2.2.2.2.1, y17.2.2.2.2.2.1, y17.2.2.2.2.2.2) else (rec_7 (x2_7 + 1) y17.2.1 y17.2.2.1 y17.2.2.2.1 y17.2.2.2.2.1 y17.2.2.2.2.2.1 y17.2.2.2.2.2.2)))
def f_Plan_makeCheapest_h7 (y2 : (Nat) × (Nat) × (Nat → Int64) × (Nat → Int64) × (Nat → Int64) × (Nat → Int64)) (LS4 : Nat → Int64) (k_7 : (Nat) → (Nat → Int64) → (Nat → Int64) → (Nat → Int64) → (Nat → Int64) → (Nat → Int32) → (Nat → Int32) → Int32 × (Nat) × (Nat) × (Nat → Int64) × (Nat → Int64) × (Nat → Int64) × (Nat → Int64) × (Nat → Int64) × (Nat → Int32) × (Nat → Int32)) : Nat → (Nat) → (Nat → Int64) → (Nat → Int64) → (Nat → Int64) → (Nat → Int64) → (Nat → Int32) → (Nat → Int32) → Int32 × (Nat) × (Nat) × (Nat → Int64) × (Nat → Int64) × (Nat → Int64) × (Nat → Int64) × (Nat → Int64) × (Nat → Int32) × (Nat → Int32)
  | 0, x2_7, LP1_7, LP2_7, LP3_7, LP4_7, IP0_7, IP1_7 => k_7 x2_7 LP1_7 LP2_7 LP3_7 LP4_7 IP0_7 IP1_7
  | n + 1, x2_7, LP1_7, LP2_7, LP3_7, LP4_7, IP0_7, IP1_7 => f_Plan_makeCheapest_h7B y2 LS4 k_7 (fun x2_7 LP1_7 LP2_7 LP3_7 LP4_7 IP0_7 IP1_7 => f_Plan_makeCheapest_h7 y2 LS4 k_7 n x2_7 LP1_7 LP2_7 LP3_7 LP4_7 IP0_7 IP1_7) x2_7 LP1_7 LP2_7 LP3_7 LP4_7 IP0_7 IP1_7
def f_Plan_makeCheapest_x7 (y2 : (Nat) × (Nat) × (Nat → Int64) × (Nat → Int64) × (Nat → Int64) × (Nat → Int64)) (x2_7 : Nat) (LP1_7 : Nat → Int64) (LP2_7 : Nat → Int64) (LP3_7 : Nat → Int64) (LP4_7 : Nat → Int64) (IP0_7 : Nat → Int32) (IP1_7 : Nat → Int32) : Int32 × (Nat) × (Nat) × (Nat → Int64) × (Nat → Int64) × (Nat → Int64) × (Nat → Int64) × (Nat → Int64) × (Nat → Int32) × (Nat → Int32) :=
  (nI 1, y2.1, y2.2.1, y2.2.2.1, LP1_7, LP2_7, LP3_7, LP4_7, IP0_7, IP1_7)
def f_Plan_makeCheapest (LP0 : Nat → Int64) (LP1 : Nat → Int64) (LP2 : Nat → Int64) (LP3 : Nat → Int64) (LP4 : Nat → Int64) (IP0 : Nat → Int32) (IP1 : Nat → Int32) (VS0 : Nat) (VS1 : Nat) (VS2 : Nat) (NS0 : Nat → Nat) (NS1 : Nat → Nat) (NS2 : Nat → Nat) (LS0 : Nat → Int64) (LS1 : Nat → Int64) (LS2 : Nat → Int64) (LS3 : Nat → Int64) (LS4 : Nat → Int64) (LS5 : Nat → Int64) (LS6 : Nat → Int64) (LS7 : Nat → Int64) (IS0 : Nat → Int32) (VY0 : Nat) (LY0 : Nat → Int64) (LY1 : Nat → Int64) (LY2 : Nat → Int64) (IY0 : Nat → Int32) (x1 : Int32) : Int32 × (Nat) × (Nat) × (Nat → Int64) × (Nat → Int64) × (Nat → Int64) × (Nat → Int64) × (Nat → Int64) × (Nat → Int32) × (Nat → Int32) :=
  hh_bind (f_Plan_clear LP0 LP1 LP2 LP3 VS0 VS1 VS2 NS0 NS1 NS2 LS0 LS1 LS2 LS3 LS5 LS6 LS7 IS0 VY0 LY0 LY1 LY2 IY0 x1) (fun y2 => f_Plan_makeCheapest_h7 y2 LS4 (f_Plan_makeCheapest_x7 y2) 9 0 y2.2.2.2.1 y2.2.2.2.2.1 y2.2.2.2.2.2 LP4 IP0 IP1)
set_option maxHeartbeats 4000000 in
set_option maxRecDepth 100000 in
theorem c_Plan_makeCheapest (l : Launch) (dC : Nat → ClassId) (dI : Nat → Nat → Nat) (cI cJ cZ : ClassId) (sz : Nat) (aP : Nat → Nat) (VP0 : Nat) (VP1 : Nat) (VP2 : Nat) (NP0 : Nat → Nat) (LP0 : Nat → Int64) (LP1 : Nat → Int64) (LP2 : Nat → Int64) (LP3 : Nat → Int64) (LP4 : Nat → Int64) (IP0 : Nat → Int32) (IP1 : Nat → Int32) (aS : Nat → Nat) (VS0 : Nat) (VS1 : Nat) (VS2 : Nat) (NS0 : Nat → Nat) (NS1 : Nat → Nat) (NS2 : Nat → Nat) (LS0 : Nat → Int64) (LS1 : Nat → Int64) (LS2 : Nat → Int64) (LS3 : Nat → Int64) (LS4 : Nat → Int64) (LS5 : Nat → Int64) (LS6 : Nat → Int64) (LS7 : Nat → Int64) (LS8 : Nat → Int64) (IS0 : Nat → Int32) (aY : Nat → Nat) (VY0 : Nat) (LY0 : Nat → Int64) (LY1 : Nat → Int64) (LY2 : Nat → Int64) (IY0 : Nat → Int32) (x1 : Int32) (hc8 : VS0 ≤ 8) (hp4 : VS1 ≤ 4) (hf8 : VS2 ≤ 8) (hy6 : VY0 ≤ 6) (hk4 : ∀ i, NS0 i < 4) (hcw : ∀ i, NS1 i < 12) (hfw : ∀ i, NS2 i < 12) : hh_Ci l y_Plan_makeCheapest u_Plan_makeCheapest ({ frames := 4, cells := 0, slots := 0, locals := 105 }) (dC, dI) vwCl [(cI, .int), (cJ, .long), (cZ, .boolean)] (w_P cI cJ cZ aP VP0 VP1 VP2 NP0 LP0 LP1 LP2 LP3 LP4 IP0 IP1 aS ++ w_S cI cJ cZ aS VS0 VS1 VS2 NS0 NS1 NS2 LS0 LS1 LS2 LS3 LS4 LS5 LS6 LS7 LS8 IS0 aY ++ w_Y cI cJ cZ aY VY0 LY0 LY1 LY2 IY0) sz [.ref (aP 0), .int x1] ((f_Plan_makeCheapest LP0 LP1 LP2 LP3 LP4 IP0 IP1 VS0 VS1 VS2 NS0 NS1 NS2 LS0 LS1 LS2 LS3 LS4 LS5 LS6 LS7 IS0 VY0 LY0 LY1 LY2 IY0 x1).1) (w_P cI cJ cZ aP ((f_Plan_makeCheapest LP0 LP1 LP2 LP3 LP4 IP0 IP1 VS0 VS1 VS2 NS0 NS1 NS2 LS0 LS1 LS2 LS3 LS4 LS5 LS6 LS7 IS0 VY0 LY0 LY1 LY2 IY0 x1).2.1) ((f_Plan_makeCheapest LP0 LP1 LP2 LP3 LP4 IP0 IP1 VS0 VS1 VS2 NS0 NS1 NS2 LS0 LS1 LS2 LS3 LS4 LS5 LS6 LS7 IS0 VY0 LY0 LY1 LY2 IY0 x1).2.2.1) VP2 NP0 ((f_Plan_makeCheapest LP0 LP1 LP2 LP3 LP4 IP0 IP1 VS0 VS1 VS2 NS0 NS1 NS2 LS0 LS1 LS2 LS3 LS4 LS5 LS6 LS7 IS0 VY0 LY0 LY1 LY2 IY0 x1).2.2.2.1) ((f_Plan_makeCheapest LP0 LP1 LP2 LP3 LP4 IP0 IP1 VS0 VS1 VS2 NS0 NS1 NS2 LS0 LS1 LS2 LS3 LS4 LS5 LS6 LS7 IS0 VY0 LY0 LY1 LY2 IY0 x1).2.2.2.2.1) ((f_Plan_makeCheapest LP0 LP1 LP2 LP3 LP4 IP0 IP1 VS0 VS1 VS2 NS0 NS1 NS2 LS0 LS1 LS2 LS3 LS4 LS5 LS6 LS7 IS0 VY0 LY0 LY1 LY2 IY0 x1).2.2.2.2.2.1) ((f_Plan_makeCheapest LP0 LP1 LP2 LP3 LP4 IP0 IP1 VS0 VS1 VS2 NS0 NS1 NS2 LS0 LS1 LS2 LS3 LS4 LS5 LS6 LS7 IS0 VY0 LY0 LY1 LY2 IY0 x1).2.2.2.2.2.2.1) ((f_Plan_makeCheapest LP0 LP1 LP2 LP3 LP4 IP0 IP1 VS0 VS1 VS2 NS0 NS1 NS2 LS0 LS1 LS2 LS3 LS4 LS5 LS6 LS7 IS0 VY0 LY0 LY1 LY2 IY0 x1).2.2.2.2.2.2.2.1) ((f_Plan_makeCheapest LP0 LP1 LP2 LP3 LP4 IP0 IP1 VS0 VS1 VS2 NS0 NS1 NS2 LS0 LS1 LS2 LS3 LS4 LS5 LS6 LS7 IS0 VY0 LY0 LY1 LY2 IY0 x1).2.2.2.2.2.2.2.2.1) ((f_Plan_makeCheapest LP0 LP1 LP2 LP3 LP4 IP0 IP1 VS0 VS1 VS2 NS0 NS1 NS2 LS0 LS1 LS2 LS3 LS4 LS5 LS6 LS7 IS0 VY0 LY0 LY1 LY2 IY0 x1).2.2.2.2.2.2.2.2.2) aS ++ w_S cI cJ cZ aS VS0 VS1 VS2 NS0 NS1 NS2 LS0 LS1 LS2 LS3 LS4 LS5 LS6 LS7 LS8 IS0 aY ++ w_Y cI cJ cZ aY VY0 LY0 LY1 LY2 IY0) 0 0 := by
  unfold hh_Ci
  refine Met.ofW (cc := b_Plan_makeCheapest) (maxL := 3) (ret := (some .boolean)) (by decide) rfl ?_
  intro p e s m args below meth c s₁ B hml hv
  obtain ⟨rfl, hsz, hP, hK, hD0⟩ := hv
  have hx := B.exec
  have hb := B.bytes
  have hr := B.returns
  have hts := atoms_spec (ws := u_Plan_makeCheapest) B.pre
  have hG : ∀ w ∈ wG, w.before ([.ref (aP 0), .int x1]).toArray s = true := fun w h => hts w (List.mem_cons_of_mem _ h)
  have hown : s.vm.findClass R_Plan = some m.cls := findClass_of_methodNamed B.named
  have hlocks := B.notSynchronized
  subst hsz
  have hD := hD0.self (sz := s.heap.size)
  generalize hAe : va_A (w_P cI cJ cZ aP VP0 VP1 VP2 NP0 LP0 LP1 LP2 LP3 LP4 IP0 IP1 aS ++ w_S cI cJ cZ aS VS0 VS1 VS2 NS0 NS1 NS2 LS0 LS1 LS2 LS3 LS4 LS5 LS6 LS7 LS8 IS0 aY ++ w_Y cI cJ cZ aY VY0 LY0 LY1 LY2 IY0) s.heap.size = A at hD ⊢
  have hA : ∀ q : Nat, s.heap.size ≤ q → A q := fun q h => by rw [← hAe]; exact Or.inr h
  have hS : va_S A s.heap s.heap [] := va_S.rf
  have hl := lv_entry ([.ref (aP 0), .int x1]) (n := 3) (Nat.le_of_ble_eq_true rfl)
  rw [lg_entry_eq]
  generalize (lg_sl ([.ref (aP 0), .int x1]) ++ List.replicate (3 - (lg_sl ([.ref (aP 0), .int x1])).length) Slot.unset).toArray = ls at hl ⊢
  have hl : lv_has ls 3 [(0, .ref (aP 0)), (1, .int x1)] := hl
  generalize hR : f_Plan_makeCheapest LP0 LP1 LP2 LP3 LP4 IP0 IP1 VS0 VS1 VS2 NS0 NS1 NS2 LS0 LS1 LS2 LS3 LS4 LS5 LS6 LS7 IS0 VY0 LY0 LY1 LY2 IY0 x1 = r0
  obtain ⟨H, locs, hHe, hle⟩ : ∃ (H : Heap) (locs : List Loc), s.heap = H ∧ [] = locs := ⟨_, _, rfl, rfl⟩
  have hP : va_P (dC, dI) vwCl (w_P cI cJ cZ aP VP0 VP1 VP2 NP0 LP0 LP1 LP2 LP3 LP4 IP0 IP1 aS ++ w_S cI cJ cZ aS VS0 VS1 VS2 NS0 NS1 NS2 LS0 LS1 LS2 LS3 LS4 LS5 LS6 LS7 LS8 IS0 aY ++ w_Y cI cJ cZ aY VY0 LY0 LY1 LY2 IY0) H := by rw [← hHe]; exact hP
  have hS : va_S A s.heap H locs := by rw [← hHe, ← hle]; exact hS
  refine hw_start hHe hle ?_
  unfold f_Plan_makeCheapest at hR
  refine lv_aload_n hx hb d_Plan_makeCheapest_0 rfl (lv_at hl 0 rfl) ?_
  refine lv_iload_n hx hb d_Plan_makeCheapest_1 rfl (lv_at hl 1 rfl) ?_
  obtain ⟨y2, hy2, hR⟩ := hw_bind hR
  have hM := c_Plan_clear l dC dI cI cJ cZ H.size aP VP0 VP1 VP2 NP0 LP0 LP1 LP2 LP3 LP4 IP0 IP1 aS VS0 VS1 VS2 NS0 NS1 NS2 LS0 LS1 LS2 LS3 LS4 LS5 LS6 LS7 LS8 IS0 aY VY0 LY0 LY1 LY2 IY0 x1 (by first | assumption | omega) (by first | assumption | omega) (by first | assumption | omega) (by first | assumption | omega) (by first | assumption | omega) (by first | assumption | omega) (by first | assumption | omega)
  rw [hy2] at hM
  refine hw_callVv (As := [.int x1]) (rest := []) (wr := ([] : va_W)) ⟨hx, hb, hml, hown, hG⟩ hM (hw_cwV 1 hG m_376 m_378 mp_5 m_5 m_379 rfl rfl (by decide +kernel) ⟨Nat.le_of_ble_eq_true rfl, Nat.le_of_ble_eq_true rfl⟩) hK hP hD hS hA [0, 1, 2, 3, 4, 5, 6, 7, 8, 9, 10, 11, 12, 13, 14, 15, 16, 17, 18, 19, 20, 21, 22, 23, 24, 25, 26, 27] [] rfl rfl (by decide) (by decide) (by decide) (hw_recv hK hP 0 rfl rfl) rfl hl.1 rfl (Nat.le_of_ble_eq_true rfl) d_Plan_makeCheapest_2 ⟨Nat.le_of_ble_eq_true rfl, Nat.le_of_ble_eq_true rfl⟩ (fun H locs hP hD hS => ?_)
  have hP : va_P (dC, dI) vwCl (w_P cI cJ cZ aP y2.1 y2.2.1 VP2 NP0 y2.2.2.1 y2.2.2.2.1 y2.2.2.2.2.1 y2.2.2.2.2.2 LP4 IP0 IP1 aS ++ w_S cI cJ cZ aS VS0 VS1 VS2 NS0 NS1 NS2 LS0 LS1 LS2 LS3 LS4 LS5 LS6 LS7 LS8 IS0 aY ++ w_Y cI cJ cZ aY VY0 LY0 LY1 LY2 IY0) H := hP
  have hD : va_D A (w_P cI cJ cZ aP y2.1 y2.2.1 VP2 NP0 y2.2.2.1 y2.2.2.2.1 y2.2.2.2.2.1 y2.2.2.2.2.2 LP4 IP0 IP1 aS ++ w_S cI cJ cZ aS VS0 VS1 VS2 NS0 NS1 NS2 LS0 LS1 LS2 LS3 LS4 LS5 LS6 LS7 LS8 IS0 aY ++ w_Y cI cJ cZ aY VY0 LY0 LY1 LY2 IY0) := hD
  have hcv2 := f_Plan_clear_vs LP0 LP1 LP2 LP3 VS0 VS1 VS2 NS0 NS1 NS2 LS0 LS1 LS2 LS3 LS5 LS6 LS7 IS0 VY0 LY0 LY1 LY2 IY0 x1
  rw [hy2] at hcv2
  have hcv2a := hcv2.1
  have hcv2b := hcv2.2
  refine lv_iconst (v := nI 0) hx hb d_Plan_makeCheapest_5 (by decide) ?_
  refine lv_istore_n (lv' := [(2, .int (nI 0)), (0, .ref (aP 0)), (1, .int x1)]) hx hb d_Plan_makeCheapest_6 rfl hl (by decide) rfl (fun ls hl => ?_)
  obtain ⟨k_7, hk_7, hR⟩ : ∃ k, (f_Plan_makeCheapest_x7 y2) = k ∧ f_Plan_makeCheapest_h7 y2 LS4 k 9 0 y2.2.2.2.1 y2.2.2.2.2.1 y2.2.2.2.2.2 LP4 IP0 IP1 = r0 := ⟨_, rfl, hR⟩
  have X_7 : ∀ (x2_7 : Nat) (LP1_7 : Nat → Int64) (LP2_7 : Nat → Int64) (LP3_7 : Nat → Int64) (LP4_7 : Nat → Int64) (IP0_7 : Nat → Int32) (IP1_7 : Nat → Int32) (hi : x2_7 ≤ VS2) (H : Heap) (locs : List Loc) (hP : va_P (dC, dI) vwCl (w_P cI cJ cZ aP y2.1 y2.2.1 VP2 NP0 y2.2.2.1 LP1_7 LP2_7 LP3_7 LP4_7 IP0_7 IP1_7 aS ++ w_S cI cJ cZ aS VS0 VS1 VS2 NS0 NS1 NS2 LS0 LS1 LS2 LS3 LS4 LS5 LS6 LS7 LS8 IS0 aY ++ w_Y cI cJ cZ aY VY0 LY0 LY1 LY2 IY0) H) (hD : va_D A (w_P cI cJ cZ aP y2.1 y2.2.1 VP2 NP0 y2.2.2.1 LP1_7 LP2_7 LP3_7 LP4_7 IP0_7 IP1_7 aS ++ w_S cI cJ cZ aS VS0 VS1 VS2 NS0 NS1 NS2 LS0 LS1 LS2 LS3 LS4 LS5 LS6 LS7 LS8 IS0 aY ++ w_Y cI cJ cZ aY VY0 LY0 LY1 LY2 IY0)) (hS : va_S A s.heap H locs) (ls : Array Slot) (hl : lv_has ls 3 [(0, .ref (aP 0)), (1, .int x1), (2, .int (nI x2_7))]) (hR : k_7 x2_7 LP1_7 LP2_7 LP3_7 LP4_7 IP0_7 IP1_7 = r0), W p l e (headSpec u_Plan_makeCheapest ({ frames := 4, cells := 0, slots := 0, locals := 105 })).room s m ([.ref (aP 0), .int x1]).toArray below meth c H locs 0 0 (hh_Zi below (dC, dI) vwCl [(cI, .int), (cJ, .long), (cZ, .boolean)] A r0.1 (w_P cI cJ cZ aP r0.2.1 r0.2.2.1 VP2 NP0 r0.2.2.2.1 r0.2.2.2.2.1 r0.2.2.2.2.2.1 r0.2.2.2.2.2.2.1 r0.2.2.2.2.2.2.2.1 r0.2.2.2.2.2.2.2.2.1 r0.2.2.2.2.2.2.2.2.2 aS ++ w_S cI cJ cZ aS VS0 VS1 VS2 NS0 NS1 NS2 LS0 LS1 LS2 LS3 LS4 LS5 LS6 LS7 LS8 IS0 aY ++ w_Y cI cJ cZ aY VY0 LY0 LY1 LY2 IY0) ([.ref (aP 0), .int x1]).toArray s) (F0 m 31 ls []) := by
    intro x2_7 LP1_7 LP2_7 LP3_7 LP4_7 IP0_7 IP1_7 hi H locs hP hD hS ls hl hR
    rw [← hk_7] at hR
    unfold f_Plan_makeCheapest_x7 at hR
    refine lv_iconst (v := nI 1) hx hb d_Plan_makeCheapest_31 (by decide) ?_
    subst hR
    exact W.zret (v := nI 1) hx hb hr (by decide) (fun t ht hW => ⟨⟨_, (), rfl, rfl, by rw [ht]; exact hP, va_K.moved hW.alike hK, hD⟩, hS.F ht⟩) hS.2.2 d_Plan_makeCheapest_32
  have L_7 : ∀ (n : Nat) (x2_7 : Nat) (LP1_7 : Nat → Int64) (LP2_7 : Nat → Int64) (LP3_7 : Nat → Int64) (LP4_7 : Nat → Int64) (IP0_7 : Nat → Int32) (IP1_7 : Nat → Int32) (hi : x2_7 ≤ VS2) (hfu : VS2 - x2_7 < n) (H : Heap) (locs : List Loc) (hP : va_P (dC, dI) vwCl (w_P cI cJ cZ aP y2.1 y2.2.1 VP2 NP0 y2.2.2.1 LP1_7 LP2_7 LP3_7 LP4_7 IP0_7 IP1_7 aS ++ w_S cI cJ cZ aS VS0 VS1 VS2 NS0 NS1 NS2 LS0 LS1 LS2 LS3 LS4 LS5 LS6 LS7 LS8 IS0 aY ++ w_Y cI cJ cZ aY VY0 LY0 LY1 LY2 IY0) H) (hD : va_D A (w_P cI cJ cZ aP y2.1 y2.2.1 VP2 NP0 y2.2.2.1 LP1_7 LP2_7 LP3_7 LP4_7 IP0_7 IP1_7 aS ++ w_S cI cJ cZ aS VS0 VS1 VS2 NS0 NS1 NS2 LS0 LS1 LS2 LS3 LS4 LS5 LS6 LS7 LS8 IS0 aY ++ w_Y cI cJ cZ aY VY0 LY0 LY1 LY2 IY0)) (hS : va_S A s.heap H locs) (ls : Array Slot) (hl : lv_has ls 3 [(0, .ref (aP 0)), (1, .int x1), (2, .int (nI x2_7))]) (hR : f_Plan_makeCheapest_h7 y2 LS4 k_7 n x2_7 LP1_7 LP2_7 LP3_7 LP4_7 IP0_7 IP1_7 = r0), W p l e (headSpec u_Plan_makeCheapest ({ frames := 4, cells := 0, slots := 0, locals := 105 })).room s m ([.ref (aP 0), .int x1]).toArray below meth c H locs 0 0 (hh_Zi below (dC, dI) vwCl [(cI, .int), (cJ, .long), (cZ, .boolean)] A r0.1 (w_P cI cJ cZ aP r0.2.1 r0.2.2.1 VP2 NP0 r0.2.2.2.1 r0.2.2.2.2.1 r0.2.2.2.2.2.1 r0.2.2.2.2.2.2.1 r0.2.2.2.2.2.2.2.1 r0.2.2.2.2.2.2.2.2.1 r0.2.2.2.2.2.2.2.2.2 aS ++ w_S cI cJ cZ aS VS0 VS1 VS2 NS0 NS1 NS2 LS0 LS1 LS2 LS3 LS4 LS5 LS6 LS7 LS8 IS0 aY ++ w_Y cI cJ cZ aY VY0 LY0 LY1 LY2 IY0) ([.ref (aP 0), .int x1]).toArray s) (F0 m 7 ls []) := by
    intro n
    induction n with
    | zero =>
      intro x2_7 LP1_7 LP2_7 LP3_7 LP4_7 IP0_7 IP1_7 hi hfu H locs hP hD hS ls hl hR
      exact absurd hfu (Nat.not_lt_zero _)
    | succ n ih_7 =>
      intro x2_7 LP1_7 LP2_7 LP3_7 LP4_7 IP0_7 IP1_7 hi hfu H locs hP hD hS ls hl hR
      rw [f_Plan_makeCheapest_h7] at hR
      obtain ⟨rec_7, hrec_7, hR⟩ : ∃ r, r = _ ∧ f_Plan_makeCheapest_h7B y2 LS4 k_7 r x2_7 LP1_7 LP2_7 LP3_7 LP4_7 IP0_7 IP1_7 = r0 := ⟨_, rfl, hR⟩
      unfold f_Plan_makeCheapest_h7B at hR
      refine lv_iload_n hx hb d_Plan_makeCheapest_7 rfl (lv_at hl 2 rfl) ?_
      refine lv_aload_n hx hb d_Plan_makeCheapest_8 rfl (lv_at hl 0 rfl) ?_
      refine va_get (D := (dC, dI)) (ci := 0) (v := .int (nI y2.2.1)) (C := R_Plan) (T := T_Plan) (N := 12) hx hb hG in_Plan hown hK hP 0 rfl rfl 2 (by decide) (hG _ m_133) (fun _ h9 => h9) rfl d_Plan_makeCheapest_9 ?_
      refine hw_icmp_ge (tgt := 31) hx hb d_Plan_makeCheapest_12 (by decide) (by omega) (by omega) (fun c12 => ?_) (fun c12 => ?_)
      · replace hR := (if_pos c12).symm.trans hR
        exact X_7 x2_7 LP1_7 LP2_7 LP3_7 LP4_7 IP0_7 IP1_7 (by first | assumption | omega | exact hw_upb (by assumption) (by omega)) H locs hP hD hS ls (lv_sub hl [0, 1, 2] rfl) hR
      · replace hR := (if_neg c12).symm.trans hR
        refine lv_aload_n hx hb d_Plan_makeCheapest_15 rfl (lv_at hl 0 rfl) ?_
        refine lv_iload_n hx hb d_Plan_makeCheapest_16 rfl (lv_at hl 2 rfl) ?_
        obtain ⟨y17, hy17, hR⟩ := hw_bind hR
        have hM := c_Plan_serve l dC dI cI cJ cZ H.size aP y2.1 y2.2.1 VP2 NP0 y2.2.2.1 LP1_7 LP2_7 LP3_7 LP4_7 IP0_7 IP1_7 aS VS0 VS1 VS2 NS0 NS1 NS2 LS0 LS1 LS2 LS3 LS4 LS5 LS6 LS7 LS8 IS0 aY VY0 LY0 LY1 LY2 IY0 x2_7 (by first | assumption | omega) (by first | assumption | omega) (by first | assumption | omega)
        rw [hy17] at hM
        refine hw_callVi (As := [.int (nI x2_7)]) (rest := []) (wr := ([] : va_W)) ⟨hx, hb, hml, hown, hG⟩ hM (hw_cwV 1 hG m_409 m_411 mp_6 m_5 m_412 rfl rfl (by decide +kernel) ⟨Nat.le_of_ble_eq_true rfl, Nat.le_of_ble_eq_true rfl⟩) hK hP hD hS hA [0, 1, 2, 3, 4, 5, 6, 7, 8, 9, 10, 11, 12, 13, 14, 15, 16, 17, 18, 19, 20, 21, 22, 23, 24, 25, 26, 27] [] rfl rfl (by decide) (by decide) (by decide) (hw_recv hK hP 0 rfl rfl) rfl hl.1 rfl (Nat.le_of_ble_eq_true rfl) d_Plan_makeCheapest_17 ⟨Nat.le_of_ble_eq_true rfl, Nat.le_of_ble_eq_true rfl⟩ (fun H locs hP hD hS => ?_)
        have hP : va_P (dC, dI) vwCl (w_P cI cJ cZ aP y2.1 y2.2.1 VP2 NP0 y2.2.2.1 y17.2.1 y17.2.2.1 y17.2.2.2.1 y17.2.2.2.2.1 y17.2.2.2.2.2.1 y17.2.2.2.2.2.2 aS ++ w_S cI cJ cZ aS VS0 VS1 VS2 NS0 NS1 NS2 LS0 LS1 LS2 LS3 LS4 LS5 LS6 LS7 LS8 IS0 aY ++ w_Y cI cJ cZ aY VY0 LY0 LY1 LY2 IY0) H := hP
        have hD : va_D A (w_P cI cJ cZ aP y2.1 y2.2.1 VP2 NP0 y2.2.2.1 y17.2.1 y17.2.2.1 y17.2.2.2.1 y17.2.2.2.2.1 y17.2.2.2.2.2.1 y17.2.2.2.2.2.2 aS ++ w_S cI cJ cZ aS VS0 VS1 VS2 NS0 NS1 NS2 LS0 LS1 LS2 LS3 LS4 LS5 LS6 LS7 LS8 IS0 aY ++ w_Y cI cJ cZ aY VY0 LY0 LY1 LY2 IY0) := hD
        refine lv_if_ne (tgt := 25) hx hb d_Plan_makeCheapest_20 (by decide) (fun c20 => ?_) (fun c20 => ?_)
        · replace hR := (if_neg c20).symm.trans hR
          refine lv_iinc (v := nI (x2_7 + 1)) (lv' := [(2, .int (nI (x2_7 + 1))), (0, .ref (aP 0)), (1, .int x1)]) hx hb d_Plan_makeCheapest_25 hl (k := 2) rfl (hw_inc _ 1) (by decide) rfl (fun ls hl => ?_)
          refine lv_goto (tgt := 7) hx hb d_Plan_makeCheapest_28 (by decide) ?_
          rw [hrec_7] at hR
          exact ih_7 (x2_7 + 1) y17.2.1 y17.2.2.1 y17.2.2.2.1 y17.2.2.2.2.1 y17.2.2.2.2.2.1 y17.2.2.2.2.2.2 (by first | assumption | omega | exact hw_upb (by assumption) (by omega)) (by omega) H locs hP hD hS ls (lv_sub hl [1, 2, 0] rfl) hR
        · replace hR := (if_pos c20).symm.trans hR
          refine lv_iconst (v := nI 0) hx hb d_Plan_makeCheapest_23 (by decide) ?_
          subst hR
          exact W.zret (v := nI 0) hx hb hr (by decide) (fun t ht hW => ⟨⟨_, (), rfl, rfl, by rw [ht]; exact hP, va_K.moved hW.alike hK, hD⟩, hS.F ht⟩) hS.2.2 d_Plan_makeCheapest_24
  exact L_7 9 0 y2.2.2.2.1 y2.2.2.2.2.1 y2.2.2.2.2.2 LP4 IP0 IP1 (by first | assumption | omega | exact hw_upb (by assumption) (by omega)) (by omega) H locs hP hD hS ls (lv_sub hl [1, 2, 0] rfl) hR
