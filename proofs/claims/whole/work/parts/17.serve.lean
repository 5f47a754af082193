abbrev b_Plan_bring : ByteArray := prog_2_method_20_code
def y_Plan_bring : MethodName := ⟨R_Plan, "bring", "(IIJ)J"⟩
def u_Plan_bring : List Cond := Cond.code y_Plan_bring b_Plan_bring 10 (some .long) :: wG
theorem d_Plan_bring_0 : decode b_Plan_bring 0 = .ok (.lload_n 3, 1) := by decide +kernel
theorem d_Plan_bring_1 : decode b_Plan_bring 1 = .ok (.aload_n 0, 1) := by decide +kernel
theorem d_Plan_bring_2 : decode b_Plan_bring 2 = .ok (.getfield 17, 3) := by decide +kernel
theorem d_Plan_bring_5 : decode b_Plan_bring 5 = .ok (.iload_n 2, 1) := by decide +kernel
theorem d_Plan_bring_6 : decode b_Plan_bring 6 = .ok (.bipush 9, 2) := by decide +kernel
theorem d_Plan_bring_8 : decode b_Plan_bring 8 = .ok (.imul, 1) := by decide +kernel
theorem d_Plan_bring_9 : decode b_Plan_bring 9 = .ok (.bipush 8, 2) := by decide +kernel
theorem d_Plan_bring_11 : decode b_Plan_bring 11 = .ok (.iadd, 1) := by decide +kernel
theorem d_Plan_bring_12 : decode b_Plan_bring 12 = .ok (.laload, 1) := by decide +kernel
theorem d_Plan_bring_13 : decode b_Plan_bring 13 = .ok (.invokestatic 146, 3) := by decide +kernel
theorem d_Plan_bring_16 : decode b_Plan_bring 16 = .ok (.lstore 5, 2) := by decide +kernel
theorem d_Plan_bring_18 : decode b_Plan_bring 18 = .ok (.iload_n 2, 1) := by decide +kernel
theorem d_Plan_bring_19 : decode b_Plan_bring 19 = .ok (.istore 7, 2) := by decide +kernel
theorem d_Plan_bring_21 : decode b_Plan_bring 21 = .ok (.iconst 0, 1) := by decide +kernel
theorem d_Plan_bring_22 : decode b_Plan_bring 22 = .ok (.istore 8, 2) := by decide +kernel
theorem d_Plan_bring_24 : decode b_Plan_bring 24 = .ok (.iload 8, 2) := by decide +kernel
theorem d_Plan_bring_26 : decode b_Plan_bring 26 = .ok (.bipush 12, 2) := by decide +kernel
theorem d_Plan_bring_28 : decode b_Plan_bring 28 = .ok (.if_icmp .ge 64, 3) := by decide +kernel
theorem d_Plan_bring_31 : decode b_Plan_bring 31 = .ok (.aload_n 0, 1) := by decide +kernel
theorem d_Plan_bring_32 : decode b_Plan_bring 32 = .ok (.getfield 33, 3) := by decide +kernel
theorem d_Plan_bring_35 : decode b_Plan_bring 35 = .ok (.iload 7, 2) := by decide +kernel
theorem d_Plan_bring_37 : decode b_Plan_bring 37 = .ok (.iaload, 1) := by decide +kernel
theorem d_Plan_bring_38 : decode b_Plan_bring 38 = .ok (.bipush 12, 2) := by decide +kernel
theorem d_Plan_bring_40 : decode b_Plan_bring 40 = .ok (.iload_n 1, 1) := by decide +kernel
theorem d_Plan_bring_41 : decode b_Plan_bring 41 = .ok (.iadd, 1) := by decide +kernel
theorem d_Plan_bring_42 : decode b_Plan_bring 42 = .ok (.if_icmp .eq 50, 3) := by decide +kernel
theorem d_Plan_bring_45 : decode b_Plan_bring 45 = .ok (.aload_n 0, 1) := by decide +kernel
theorem d_Plan_bring_46 : decode b_Plan_bring 46 = .ok (.getfield 33, 3) := by decide +kernel
theorem d_Plan_bring_49 : decode b_Plan_bring 49 = .ok (.iload 7, 2) := by decide +kernel
theorem d_Plan_bring_51 : decode b_Plan_bring 51 = .ok (.iaload, 1) := by decide +kernel
theorem d_Plan_bring_52 : decode b_Plan_bring 52 = .ok (.istore 9, 2) := by decide +kernel
theorem d_Plan_bring_54 : decode b_Plan_bring 54 = .ok (.aload_n 0, 1) := by decide +kernel
theorem d_Plan_bring_55 : decode b_Plan_bring 55 = .ok (.getfield 33, 3) := by decide +kernel
theorem d_Plan_bring_58 : decode b_Plan_bring 58 = .ok (.iload 9, 2) := by decide +kernel
theorem d_Plan_bring_60 : decode b_Plan_bring 60 = .ok (.iaload, 1) := by decide +kernel
theorem d_Plan_bring_61 : decode b_Plan_bring 61 = .ok (.istore 7, 2) := by decide +kernel
theorem d_Plan_bring_63 : decode b_Plan_bring 63 = .ok (.lload 5, 2) := by decide +kernel
theorem d_Plan_bring_65 : decode b_Plan_bring 65 = .ok (.aload_n 0, 1) := by decide +kernel
theorem d_Plan_bring_66 : decode b_Plan_bring 66 = .ok (.getfield 17, 3) := by decide +kernel
theorem d_Plan_bring_69 : decode b_Plan_bring 69 = .ok (.iload 7, 2) := by decide +kernel
theorem d_Plan_bring_71 : decode b_Plan_bring 71 = .ok (.bipush 9, 2) := by decide +kernel
theorem d_Plan_bring_73 : decode b_Plan_bring 73 = .ok (.imul, 1) := by decide +kernel
theorem d_Plan_bring_74 : decode b_Plan_bring 74 = .ok (.iload 9, 2) := by decide +kernel
theorem d_Plan_bring_76 : decode b_Plan_bring 76 = .ok (.iadd, 1) := by decide +kernel
theorem d_Plan_bring_77 : decode b_Plan_bring 77 = .ok (.bipush 12, 2) := by decide +kernel
theorem d_Plan_bring_79 : decode b_Plan_bring 79 = .ok (.isub, 1) := by decide +kernel
theorem d_Plan_bring_80 : decode b_Plan_bring 80 = .ok (.laload, 1) := by decide +kernel
theorem d_Plan_bring_81 : decode b_Plan_bring 81 = .ok (.invokestatic 146, 3) := by decide +kernel
theorem d_Plan_bring_84 : decode b_Plan_bring 84 = .ok (.lstore 5, 2) := by decide +kernel
theorem d_Plan_bring_86 : decode b_Plan_bring 86 = .ok (.iinc 8 1, 3) := by decide +kernel
theorem d_Plan_bring_89 : decode b_Plan_bring 89 = .ok (.goto (-65), 3) := by decide +kernel
theorem d_Plan_bring_92 : decode b_Plan_bring 92 = .ok (.aload_n 0, 1) := by decide +kernel
theorem d_Plan_bring_93 : decode b_Plan_bring 93 = .ok (.getfield 17, 3) := by decide +kernel
theorem d_Plan_bring_96 : decode b_Plan_bring 96 = .ok (.iload_n 2, 1) := by decide +kernel
theorem d_Plan_bring_97 : decode b_Plan_bring 97 = .ok (.bipush 9, 2) := by decide +kernel
theorem d_Plan_bring_99 : decode b_Plan_bring 99 = .ok (.imul, 1) := by decide +kernel
theorem d_Plan_bring_100 : decode b_Plan_bring 100 = .ok (.bipush 8, 2) := by decide +kernel
theorem d_Plan_bring_102 : decode b_Plan_bring 102 = .ok (.iadd, 1) := by decide +kernel
theorem d_Plan_bring_103 : decode b_Plan_bring 103 = .ok (.dup2, 1) := by decide +kernel
theorem d_Plan_bring_104 : decode b_Plan_bring 104 = .ok (.laload, 1) := by decide +kernel
theorem d_Plan_bring_105 : decode b_Plan_bring 105 = .ok (.lload 5, 2) := by decide +kernel
theorem d_Plan_bring_107 : decode b_Plan_bring 107 = .ok (.lsub, 1) := by decide +kernel
theorem d_Plan_bring_108 : decode b_Plan_bring 108 = .ok (.lastore, 1) := by decide +kernel
theorem d_Plan_bring_109 : decode b_Plan_bring 109 = .ok (.iload_n 2, 1) := by decide +kernel
theorem d_Plan_bring_110 : decode b_Plan_bring 110 = .ok (.istore 7, 2) := by decide +kernel
theorem d_Plan_bring_112 : decode b_Plan_bring 112 = .ok (.iconst 0, 1) := by decide +kernel
theorem d_Plan_bring_113 : decode b_Plan_bring 113 = .ok (.istore 8, 2) := by decide +kernel
theorem d_Plan_bring_115 : decode b_Plan_bring 115 = .ok (.iload 8, 2) := by decide +kernel
theorem d_Plan_bring_117 : decode b_Plan_bring 117 = .ok (.bipush 12, 2) := by decide +kernel
theorem d_Plan_bring_119 : decode b_Plan_bring 119 = .ok (.if_icmp .ge 83, 3) := by decide +kernel
theorem d_Plan_bring_122 : decode b_Plan_bring 122 = .ok (.aload_n 0, 1) := by decide +kernel
theorem d_Plan_bring_123 : decode b_Plan_bring 123 = .ok (.getfield 33, 3) := by decide +kernel
theorem d_Plan_bring_126 : decode b_Plan_bring 126 = .ok (.iload 7, 2) := by decide +kernel
theorem d_Plan_bring_128 : decode b_Plan_bring 128 = .ok (.iaload, 1) := by decide +kernel
theorem d_Plan_bring_129 : decode b_Plan_bring 129 = .ok (.bipush 12, 2) := by decide +kernel
theorem d_Plan_bring_131 : decode b_Plan_bring 131 = .ok (.iload_n 1, 1) := by decide +kernel
theorem d_Plan_bring_132 : decode b_Plan_bring 132 = .ok (.iadd, 1) := by decide +kernel
theorem d_Plan_bring_133 : decode b_Plan_bring 133 = .ok (.if_icmp .eq 69, 3) := by decide +kernel
theorem d_Plan_bring_136 : decode b_Plan_bring 136 = .ok (.aload_n 0, 1) := by decide +kernel
theorem d_Plan_bring_137 : decode b_Plan_bring 137 = .ok (.getfield 33, 3) := by decide +kernel
theorem d_Plan_bring_140 : decode b_Plan_bring 140 = .ok (.iload 7, 2) := by decide +kernel
theorem d_Plan_bring_142 : decode b_Plan_bring 142 = .ok (.iaload, 1) := by decide +kernel
theorem d_Plan_bring_143 : decode b_Plan_bring 143 = .ok (.istore 9, 2) := by decide +kernel
theorem d_Plan_bring_145 : decode b_Plan_bring 145 = .ok (.aload_n 0, 1) := by decide +kernel
theorem d_Plan_bring_146 : decode b_Plan_bring 146 = .ok (.getfield 17, 3) := by decide +kernel
theorem d_Plan_bring_149 : decode b_Plan_bring 149 = .ok (.iload 7, 2) := by decide +kernel
theorem d_Plan_bring_151 : decode b_Plan_bring 151 = .ok (.bipush 9, 2) := by decide +kernel
theorem d_Plan_bring_153 : decode b_Plan_bring 153 = .ok (.imul, 1) := by decide +kernel
theorem d_Plan_bring_154 : decode b_Plan_bring 154 = .ok (.iload 9, 2) := by decide +kernel
theorem d_Plan_bring_156 : decode b_Plan_bring 156 = .ok (.iadd, 1) := by decide +kernel
theorem d_Plan_bring_157 : decode b_Plan_bring 157 = .ok (.bipush 12, 2) := by decide +kernel
theorem d_Plan_bring_159 : decode b_Plan_bring 159 = .ok (.isub, 1) := by decide +kernel
theorem d_Plan_bring_160 : decode b_Plan_bring 160 = .ok (.dup2, 1) := by decide +kernel
theorem d_Plan_bring_161 : decode b_Plan_bring 161 = .ok (.laload, 1) := by decide +kernel
theorem d_Plan_bring_162 : decode b_Plan_bring 162 = .ok (.lload 5, 2) := by decide +kernel
theorem d_Plan_bring_164 : decode b_Plan_bring 164 = .ok (.ladd, 1) := by decide +kernel
theorem d_Plan_bring_165 : decode b_Plan_bring 165 = .ok (.lastore, 1) := by decide +kernel
theorem d_Plan_bring_166 : decode b_Plan_bring 166 = .ok (.aload_n 0, 1) := by decide +kernel
theorem d_Plan_bring_167 : decode b_Plan_bring 167 = .ok (.getfield 33, 3) := by decide +kernel
theorem d_Plan_bring_170 : decode b_Plan_bring 170 = .ok (.iload 9, 2) := by decide +kernel
theorem d_Plan_bring_172 : decode b_Plan_bring 172 = .ok (.iaload, 1) := by decide +kernel
theorem d_Plan_bring_173 : decode b_Plan_bring 173 = .ok (.istore 7, 2) := by decide +kernel
theorem d_Plan_bring_175 : decode b_Plan_bring 175 = .ok (.aload_n 0, 1) := by decide +kernel
theorem d_Plan_bring_176 : decode b_Plan_bring 176 = .ok (.getfield 17, 3) := by decide +kernel
theorem d_Plan_bring_179 : decode b_Plan_bring 179 = .ok (.iload 7, 2) := by decide +kernel
theorem d_Plan_bring_181 : decode b_Plan_bring 181 = .ok (.bipush 9, 2) := by decide +kernel
theorem d_Plan_bring_183 : decode b_Plan_bring 183 = .ok (.imul, 1) := by decide +kernel
theorem d_Plan_bring_184 : decode b_Plan_bring 184 = .ok (.iload 9, 2) := by decide +kernel
theorem d_Plan_bring_186 : decode b_Plan_bring 186 = .ok (.iadd, 1) := by decide +kernel
theorem d_Plan_bring_187 : decode b_Plan_bring 187 = .ok (.bipush 12, 2) := by decide +kernel
theorem d_Plan_bring_189 : decode b_Plan_bring 189 = .ok (.isub, 1) := by decide +kernel
theorem d_Plan_bring_190 : decode b_Plan_bring 190 = .ok (.dup2, 1) := by decide +kernel
theorem d_Plan_bring_191 : decode b_Plan_bring 191 = .ok (.laload, 1) := by decide +kernel
theorem d_Plan_bring_192 : decode b_Plan_bring 192 = .ok (.lload 5, 2) := by decide +kernel
theorem d_Plan_bring_194 : decode b_Plan_bring 194 = .ok (.lsub, 1) := by decide +kernel
theorem d_Plan_bring_195 : decode b_Plan_bring 195 = .ok (.lastore, 1) := by decide +kernel
theorem d_Plan_bring_196 : decode b_Plan_bring 196 = .ok (.iinc 8 1, 3) := by decide +kernel
theorem d_Plan_bring_199 : decode b_Plan_bring 199 = .ok (.goto (-84), 3) := by decide +kernel
theorem d_Plan_bring_202 : decode b_Plan_bring 202 = .ok (.aload_n 0, 1) := by decide +kernel
theorem d_Plan_bring_203 : decode b_Plan_bring 203 = .ok (.getfield 17, 3) := by decide +kernel
theorem d_Plan_bring_206 : decode b_Plan_bring 206 = .ok (.iload 7, 2) := by decide +kernel
theorem d_Plan_bring_208 : decode b_Plan_bring 208 = .ok (.bipush 9, 2) := by decide +kernel
theorem d_Plan_bring_210 : decode b_Plan_bring 210 = .ok (.imul, 1) := by decide +kernel
theorem d_Plan_bring_211 : decode b_Plan_bring 211 = .ok (.iload_n 1, 1) := by decide +kernel
theorem d_Plan_bring_212 : decode b_Plan_bring 212 = .ok (.iadd, 1) := by decide +kernel
theorem d_Plan_bring_213 : decode b_Plan_bring 213 = .ok (.dup2, 1) := by decide +kernel
theorem d_Plan_bring_214 : decode b_Plan_bring 214 = .ok (.laload, 1) := by decide +kernel
theorem d_Plan_bring_215 : decode b_Plan_bring 215 = .ok (.lload 5, 2) := by decide +kernel
theorem d_Plan_bring_217 : decode b_Plan_bring 217 = .ok (.ladd, 1) := by decide +kernel
theorem d_Plan_bring_218 : decode b_Plan_bring 218 = .ok (.lastore, 1) := by decide +kernel
theorem d_Plan_bring_219 : decode b_Plan_bring 219 = .ok (.lload 5, 2) := by decide +kernel
theorem d_Plan_bring_221 : decode b_Plan_bring 221 = .ok (.lreturn, 1) := by decide +kernel
abbrev b_Plan_serve : ByteArray := prog_2_method_13_code
def y_Plan_serve : MethodName := ⟨R_Plan, "serve", "(I)Z"⟩
def u_Plan_serve : List Cond := Cond.code y_Plan_serve b_Plan_serve 6 (some .boolean) :: wG
theorem d_Plan_serve_0 : decode b_Plan_serve 0 = .ok (.aload_n 0, 1) := by decide +kernel
theorem d_Plan_serve_1 : decode b_Plan_serve 1 = .ok (.getfield 40, 3) := by decide +kernel
theorem d_Plan_serve_4 : decode b_Plan_serve 4 = .ok (.getfield 113, 3) := by decide +kernel
theorem d_Plan_serve_7 : decode b_Plan_serve 7 = .ok (.iload_n 1, 1) := by decide +kernel
theorem d_Plan_serve_8 : decode b_Plan_serve 8 = .ok (.laload, 1) := by decide +kernel
theorem d_Plan_serve_9 : decode b_Plan_serve 9 = .ok (.lstore_n 2, 1) := by decide +kernel
theorem d_Plan_serve_10 : decode b_Plan_serve 10 = .ok (.iconst 0, 1) := by decide +kernel
theorem d_Plan_serve_11 : decode b_Plan_serve 11 = .ok (.istore 4, 2) := by decide +kernel
theorem d_Plan_serve_13 : decode b_Plan_serve 13 = .ok (.iload 4, 2) := by decide +kernel
theorem d_Plan_serve_15 : decode b_Plan_serve 15 = .ok (.ldc 116, 2) := by decide +kernel
theorem d_Plan_serve_17 : decode b_Plan_serve 17 = .ok (.if_icmp .ge 58, 3) := by decide +kernel
theorem d_Plan_serve_20 : decode b_Plan_serve 20 = .ok (.lload_n 2, 1) := by decide +kernel
theorem d_Plan_serve_21 : decode b_Plan_serve 21 = .ok (.lconst 0, 1) := by decide +kernel
theorem d_Plan_serve_22 : decode b_Plan_serve 22 = .ok (.lcmp, 1) := by decide +kernel
theorem d_Plan_serve_23 : decode b_Plan_serve 23 = .ok (.ifCond .le 52, 3) := by decide +kernel
theorem d_Plan_serve_26 : decode b_Plan_serve 26 = .ok (.aload_n 0, 1) := by decide +kernel
theorem d_Plan_serve_27 : decode b_Plan_serve 27 = .ok (.bipush 12, 2) := by decide +kernel
theorem d_Plan_serve_29 : decode b_Plan_serve 29 = .ok (.iload_n 1, 1) := by decide +kernel
theorem d_Plan_serve_30 : decode b_Plan_serve 30 = .ok (.iadd, 1) := by decide +kernel
theorem d_Plan_serve_31 : decode b_Plan_serve 31 = .ok (.invokevirtual 73, 3) := by decide +kernel
theorem d_Plan_serve_34 : decode b_Plan_serve 34 = .ok (.istore 5, 2) := by decide +kernel
theorem d_Plan_serve_36 : decode b_Plan_serve 36 = .ok (.iload 5, 2) := by decide +kernel
theorem d_Plan_serve_38 : decode b_Plan_serve 38 = .ok (.ifCond .ge 5, 3) := by decide +kernel
theorem d_Plan_serve_41 : decode b_Plan_serve 41 = .ok (.iconst 0, 1) := by decide +kernel
theorem d_Plan_serve_42 : decode b_Plan_serve 42 = .ok (.ireturn, 1) := by decide +kernel
theorem d_Plan_serve_43 : decode b_Plan_serve 43 = .ok (.aload_n 0, 1) := by decide +kernel
theorem d_Plan_serve_44 : decode b_Plan_serve 44 = .ok (.aload_n 0, 1) := by decide +kernel
theorem d_Plan_serve_45 : decode b_Plan_serve 45 = .ok (.getfield 26, 3) := by decide +kernel
theorem d_Plan_serve_48 : decode b_Plan_serve 48 = .ok (.iload 5, 2) := by decide +kernel
theorem d_Plan_serve_50 : decode b_Plan_serve 50 = .ok (.laload, 1) := by decide +kernel
theorem d_Plan_serve_51 : decode b_Plan_serve 51 = .ok (.ldc2_w 79, 3) := by decide +kernel
theorem d_Plan_serve_54 : decode b_Plan_serve 54 = .ok (.ldiv, 1) := by decide +kernel
theorem d_Plan_serve_55 : decode b_Plan_serve 55 = .ok (.invokevirtual 117, 3) := by decide +kernel
theorem d_Plan_serve_58 : decode b_Plan_serve 58 = .ok (.lload_n 2, 1) := by decide +kernel
theorem d_Plan_serve_59 : decode b_Plan_serve 59 = .ok (.aload_n 0, 1) := by decide +kernel
theorem d_Plan_serve_60 : decode b_Plan_serve 60 = .ok (.iload_n 1, 1) := by decide +kernel
theorem d_Plan_serve_61 : decode b_Plan_serve 61 = .ok (.iload 5, 2) := by decide +kernel
theorem d_Plan_serve_63 : decode b_Plan_serve 63 = .ok (.lload_n 2, 1) := by decide +kernel
theorem d_Plan_serve_64 : decode b_Plan_serve 64 = .ok (.invokevirtual 121, 3) := by decide +kernel
theorem d_Plan_serve_67 : decode b_Plan_serve 67 = .ok (.lsub, 1) := by decide +kernel
theorem d_Plan_serve_68 : decode b_Plan_serve 68 = .ok (.lstore_n 2, 1) := by decide +kernel
theorem d_Plan_serve_69 : decode b_Plan_serve 69 = .ok (.iinc 4 1, 3) := by decide +kernel
theorem d_Plan_serve_72 : decode b_Plan_serve 72 = .ok (.goto (-59), 3) := by decide +kernel
theorem d_Plan_serve_75 : decode b_Plan_serve 75 = .ok (.lload_n 2, 1) := by decide +kernel
theorem d_Plan_serve_76 : decode b_Plan_serve 76 = .ok (.lconst 0, 1) := by decide +kernel
theorem d_Plan_serve_77 : decode b_Plan_serve 77 = .ok (.lcmp, 1) := by decide +kernel
theorem d_Plan_serve_78 : decode b_Plan_serve 78 = .ok (.ifCond .ne 7, 3) := by decide +kernel
theorem d_Plan_serve_81 : decode b_Plan_serve 81 = .ok (.iconst 1, 1) := by decide +kernel
theorem d_Plan_serve_82 : decode b_Plan_serve 82 = .ok (.goto 4, 3) := by decide +kernel
theorem d_Plan_serve_85 : decode b_Plan_serve 85 = .ok (.iconst 0, 1) := by decide +kernel
theorem d_Plan_serve_86 : decode b_Plan_serve 86 = .ok (.ireturn, 1) := by decide +kernel
theorem hp_found_ring {x1 : Nat} {load : Nat → Int64} {r : Int32 × (Nat → Int64) × (Nat → Int32) × (Nat → Int32)} (h : hp_found (12 + x1) load r) (h0 : 0 ≤ r.1) : hp_tree (12 + x1) r.2.1 r.2.2.2 ∧ r.1.toNatClampNeg < 12 ∧ r.2.1 r.1.toNatClampNeg ≠ 9223372036854775807 := by
  rcases h with e | ⟨j, hj, e, -, hk, ht⟩
  · rw [e] at h0
    exact absurd h0 (by decide)
  · rw [e, nI_clamp (show j < 2 ^ 31 by omega)]
    exact ⟨ht, hj, hk⟩
theorem hp_ring {x1 : Nat} {key : Nat → Int64} {bef : Nat → Int32} (ht : hp_tree (12 + x1) key bef) : ∀ s, (s < 12 ∧ key s ≠ 9223372036854775807) → s < 12 ∧ (bef s = nI (12 + x1) ∨ ∃ f0 s0, f0 < 9 ∧ bef s = nI (12 + f0) ∧ bef (12 + f0) = nI s0 ∧ (s0 < 12 ∧ key s0 ≠ 9223372036854775807)) := by
  intro s hs
  refine ⟨hs.1, ?_⟩
  rcases ht s (by omega) hs.2 with e | ⟨u, hu, e, hk, hp⟩
  · omega
  · by_cases c : u = 12 + x1
    · subst c
      exact Or.inl e
    · have hu12 : 12 ≤ u := hp.mp hs.1
      rcases ht u hu hk with e2 | ⟨w, hw, e2, hk2, hp2⟩
      · exact absurd e2 c
      · have hw12 : w < 12 := by
          rcases Nat.lt_or_ge w 12 with q | q
          · exact q
          · exact absurd (hp2.mpr q) (by omega)
        exact Or.inr ⟨u - 12, w, by omega, by rw [show 12 + (u - 12) = u by omega]; exact e, by rw [show 12 + (u - 12) = u by omega]; exact e2, hw12, hk2⟩
def f_Plan_bring_h115B (IP1 : Nat → Int32) (x1 : Nat) (x5_24 : Int64) (k_115 : (Nat) → (Nat) → (Nat → Int64) → Int64 × (Nat → Int64)) (rec_115 : (Nat) → (Nat) → (Nat → Int64) → Int64 × (Nat → Int64)) (x7_115 : Nat) (x8_115 : Nat) (LP1_115 : Nat → Int64) : Int64 × (Nat → Int64) :=
  if 12 ≤ x8_115 then (k_115 x7_115 x8_115 LP1_115) else (if (IP1 x7_115) = (nI (12 + x1)) then (k_115 x7_115 x8_115 LP1_115) else (rec_115 ((IP1 ((IP1 x7_115).toNatClampNeg)).toNatClampNeg) (x8_115 + 1) (vp_updL (vp_updL LP1_115 (((x7_115 * 9) + ((IP1 x7_115).toNatClampNeg)) - 12) ((LP1_115 (((x7_115 * 9) + ((IP1 x7_115).toNatClampNeg)) - 12)) + x5_24)) (((((IP1 ((IP1 x7_115).toNatClampNeg)).toNatClampNeg) * 9) + ((IP1 x7_115).toNatClampNeg)) - 12) (((vp_updL LP1_115 (((x7_115 * 9) + ((IP1 x7_115).toNatClampNeg)) - 12) ((LP1_115 (((x7_115 * 9) + ((IP1 x7_115).toNatClampNeg)) - 12)) + x5_24)) (((((IP1 ((IP1 x7_115).toNatClampNeg)).toNatClampNeg) * 9) + ((IP1 x7_115).toNatClampNeg)) - 12)) - x5_24))))
def f_Plan_bring_h115 (IP1 : Nat → Int32) (x1 : Nat) (x5_24 : Int64) (k_115 : (Nat) → (Nat) → (Nat → Int64) → Int64 × (Nat → Int64)) : Nat → (Nat) → (Nat) → (Nat → Int64) → Int64 × (Nat → Int64)
  | 0, x7_115, x8_115, LP1_115 => k_115 x7_115 x8_115 LP1_115
  | n + 1, x7_115, x8_115, LP1_115 => f_Plan_bring_h115B IP1 x1 x5_24 k_115 (fun x7_115 x8_115 LP1_115 => f_Plan_bring_h115 IP1 x1 x5_24 k_115 n x7_115 x8_115 LP1_115) x7_115 x8_115 LP1_115
def f_Plan_bring_x115 (x5_24 : Int64) (x1 : Nat) (x7_115 : Nat) (x8_115 : Nat) (LP1_115 : Nat → Int64) : Int64 × (Nat → Int64) :=
  (x5_24, vp_updL LP1_115 ((x7_115 * 9) + x1) ((LP1_115 ((x7_115 * 9) + x1)) + x5_24))
def f_Plan_bring_h24B (IP1 : Nat → Int32) (x1 : Nat) (LP1 : Nat → Int64) (k_24 : (Int64) → (Nat) → (Nat) → Int64 × (Nat → Int64)) (rec_24 : (Int64) → (Nat) → (Nat) → Int64 × (Nat → Int64)) (x5_24 : Int64) (x7_24 : Nat) (x8_24 : Nat) : Int64 × (Nat → Int64) :=
  if 12 ≤ x8_24 then (k_24 x5_24 x7_24 x8_24) else (if (IP1 x7_24) = (nI (12 + x1)) then (k_24 x5_24 x7_24 x8_24) else (rec_24 (hh_min x5_24 (LP1 (((((IP1 ((IP1 x7_24).toNatClampNeg)).toNatClampNeg) * 9) + ((IP1 x7_24).toNatClampNeg)) - 12))) ((IP1 ((IP1 x7_24).toNatClampNeg)).toNatClampNeg) (x8_24 + 1)))
def f_Plan_bring_h24 (IP1 : Nat → Int32) (x1 : Nat) (LP1 : Nat → Int64) (k_24 : (Int64) → (Nat) → (Nat) → Int64 × (Nat → Int64)) : Nat → (Int64) → (Nat) → (Nat) → Int64 × (Nat → Int64)
  | 0, x5_24, x7_24, x8_24 => k_24 x5_24 x7_24 x8_24
  | n + 1, x5_24, x7_24, x8_24 => f_Plan_bring_h24B IP1 x1 LP1 k_24 (fun x5_24 x7_24 x8_24 => f_Plan_bring_h24 IP1 x1 LP1 k_24 n x5_24 x7_24 x8_24) x5_24 x7_24 x8_24
def f_Plan_bring_x24 (IP1 : Nat → Int32) (x1 : Nat) (x2 : Nat) (LP1 : Nat → Int64) (x5_24 : Int64) (x7_24 : Nat) (x8_24 : Nat) : Int64 × (Nat → Int64) :=
  f_Plan_bring_h115 IP1 x1 x5_24 (f_Plan_bring_x115 x5_24 x1) 13 x2 0 (vp_updL LP1 ((x2 * 9) + 8) ((LP1 ((x2 * 9) + 8)) - x5_24))
def f_Plan_bring (LP1 : Nat → Int64) (IP1 : Nat → Int32) (x1 : Nat) (x2 : Nat) (x3 : Int64) : Int64 × (Nat → Int64) :=
  f_Plan_bring_h24 IP1 x1 LP1 (f_Plan_bring_x24 IP1 x1 x2 LP1) 13 (hh_min x3 (LP1 ((x2 * 9) + 8))) x2 0
set_option maxHeartbeats 4000000 in
set_option maxRecDepth 100000 in
theorem c_Plan_bring (l : Launch) (dC : Nat → ClassId) (dI : Nat → Nat → Nat) (cI cJ cZ : ClassId) (sz : Nat) (aP : Nat → Nat) (VP0 : Nat) (VP1 : Nat) (VP2 : Nat) (NP0 : Nat → Nat) (LP0 : Nat → Int64) (LP1 : Nat → Int64) (LP2 : Nat → Int64) (LP3 : Nat → Int64) (LP4 : Nat → Int64) (IP0 : Nat → Int32) (IP1 : Nat → Int32) (aS : Nat → Nat) (VS0 : Nat) (VS1 : Nat) (VS2 : Nat) (NS0 : Nat → Nat) (NS1 : Nat → Nat) (NS2 : Nat → Nat) (LS0 : Nat → Int64) (LS1 : Nat → Int64) (LS2 : Nat → Int64) (LS3 : Nat → Int64) (LS4 : Nat → Int64) (LS5 : Nat → Int64) (LS6 : Nat → Int64) (LS7 : Nat → Int64) (LS8 : Nat → Int64) (IS0 : Nat → Int32) (aY : Nat → Nat) (VY0 : Nat) (LY0 : Nat → Int64) (LY1 : Nat → Int64) (LY2 : Nat → Int64) (IY0 : Nat → Int32) (x1 : Nat) (x2 : Nat) (x3 : Int64) (hx1 : x1 < 9) (hx2 : x2 < 12) (Rc : Nat → Prop) (hRc : ∀ s, Rc s → s < 12 ∧ (IP1 s = nI (12 + x1) ∨ ∃ f0 s0, f0 < 9 ∧ IP1 s = nI (12 + f0) ∧ IP1 (12 + f0) = nI s0 ∧ Rc s0)) (hend : Rc x2) : hh_Cl l y_Plan_bring u_Plan_bring ({ frames := 1, cells := 0, slots := 0, locals := 23 }) (dC, dI) vwCl [(cI, .int), (cJ, .long), (cZ, .boolean)] (w_P cI cJ cZ aP VP0 VP1 VP2 NP0 LP0 LP1 LP2 LP3 LP4 IP0 IP1 aS ++ w_S cI cJ cZ aS VS0 VS1 VS2 NS0 NS1 NS2 LS0 LS1 LS2 LS3 LS4 LS5 LS6 LS7 LS8 IS0 aY ++ w_Y cI cJ cZ aY VY0 LY0 LY1 LY2 IY0) sz [.ref (aP 0), .int (nI x1), .int (nI x2), .long x3] ((f_Plan_bring LP1 IP1 x1 x2 x3).1) (w_P cI cJ cZ aP VP0 VP1 VP2 NP0 LP0 ((f_Plan_bring LP1 IP1 x1 x2 x3).2) LP2 LP3 LP4 IP0 IP1 aS ++ w_S cI cJ cZ aS VS0 VS1 VS2 NS0 NS1 NS2 LS0 LS1 LS2 LS3 LS4 LS5 LS6 LS7 LS8 IS0 aY ++ w_Y cI cJ cZ aY VY0 LY0 LY1 LY2 IY0) 0 0 := by
  unfold hh_Cl
  refine Met.ofW (cc := b_Plan_bring) (maxL := 10) (ret := (some .long)) (by decide) rfl ?_
  intro p e s m args below meth c s₁ B hml hv
  obtain ⟨rfl, hsz, hP, hK, hD0⟩ := hv
  have hx := B.exec
  have hb := B.bytes
  have hr := B.returns
  have hts := atoms_spec (ws := u_Plan_bring) B.pre
  have hG : ∀ w ∈ wG, w.before ([.ref (aP 0), .int (nI x1), .int (nI x2), .long x3]).toArray s = true := fun w h => hts w (List.mem_cons_of_mem _ h)
  have hown : s.vm.findClass R_Plan = some m.cls := findClass_of_methodNamed B.named
  have hlocks := B.notSynchronized
  subst hsz
  have hD := hD0.self (sz := s.heap.size)
  generalize hAe : va_A (w_P cI cJ cZ aP VP0 VP1 VP2 NP0 LP0 LP1 LP2 LP3 LP4 IP0 IP1 aS ++ w_S cI cJ cZ aS VS0 VS1 VS2 NS0 NS1 NS2 LS0 LS1 LS2 LS3 LS4 LS5 LS6 LS7 LS8 IS0 aY ++ w_Y cI cJ cZ aY VY0 LY0 LY1 LY2 IY0) s.heap.size = A at hD ⊢
  have hA : ∀ q : Nat, s.heap.size ≤ q → A q := fun q h => by rw [← hAe]; exact Or.inr h
  have hS : va_S A s.heap s.heap [] := va_S.rf
  have hl := lv_entry ([.ref (aP 0), .int (nI x1), .int (nI x2), .long x3]) (n := 10) (Nat.le_of_ble_eq_true rfl)
  rw [lg_entry_eq]
  generalize (lg_sl ([.ref (aP 0), .int (nI x1), .int (nI x2), .long x3]) ++ List.replicate (10 - (lg_sl ([.ref (aP 0), .int (nI x1), .int (nI x2), .long x3])).length) Slot.unset).toArray = ls at hl ⊢
  have hl : lv_has ls 10 [(0, .ref (aP 0)), (1, .int (nI x1)), (2, .int (nI x2)), (3, .long x3)] := hl
  generalize hR : f_Plan_bring LP1 IP1 x1 x2 x3 = r0
  obtain ⟨H, locs, hHe, hle⟩ : ∃ (H : Heap) (locs : List Loc), s.heap = H ∧ [] = locs := ⟨_, _, rfl, rfl⟩
  have hP : va_P (dC, dI) vwCl (w_P cI cJ cZ aP VP0 VP1 VP2 NP0 LP0 LP1 LP2 LP3 LP4 IP0 IP1 aS ++ w_S cI cJ cZ aS VS0 VS1 VS2 NS0 NS1 NS2 LS0 LS1 LS2 LS3 LS4 LS5 LS6 LS7 LS8 IS0 aY ++ w_Y cI cJ cZ aY VY0 LY0 LY1 LY2 IY0) H := by rw [← hHe]; exact hP
  have hS : va_S A s.heap H locs := by rw [← hHe, ← hle]; exact hS
  refine hw_start hHe hle ?_
  unfold f_Plan_bring at hR
  refine lv_lload_n hx hb d_Plan_bring_0 rfl (lv_at hl 3 rfl) ?_
  refine lv_aload_n hx hb d_Plan_bring_1 rfl (lv_at hl 0 rfl) ?_
  refine va_get (D := (dC, dI)) (ci := 0) (v := .ref (aP 2)) (C := R_Plan) (T := T_Plan) (N := 12) hx hb hG in_Plan hown hK hP 0 rfl rfl 4 (by decide) (hG _ m_135) (fun _ h9 => h9) rfl d_Plan_bring_2 ?_
  refine lv_iload_n hx hb d_Plan_bring_5 rfl (lv_at hl 2 rfl) ?_
  refine lv_bipush (v := nI 9) hx hb d_Plan_bring_6 (by decide) ?_
  refine hw_imul hx hb d_Plan_bring_8 ?_
  refine lv_bipush (v := nI 8) hx hb d_Plan_bring_9 (by decide) ?_
  refine hw_iadd hx hb d_Plan_bring_11 ?_
  refine hw_lald (f := LP1) hx hb hK hP 2 1 rfl rfl (by decide) (by omega) d_Plan_bring_12 ?_
  refine hw_mmin hx hb (hml.trans hl.1.symm) hown (hG _ m_425) (hG _ m_407) (hG _ m_12) (hG _ m_408) (Nat.le_of_ble_eq_true rfl) (Nat.le_of_ble_eq_true rfl) (Nat.zero_le _) (Nat.zero_le _) d_Plan_bring_13 ?_
  refine lv_lstore (lv' := [(5, .long (hh_min x3 (LP1 ((x2 * 9) + 8)))), (0, .ref (aP 0)), (1, .int (nI x1)), (2, .int (nI x2)), (3, .long x3)]) hx hb d_Plan_bring_16 hl (by decide) rfl (fun ls hl => ?_)
  refine lv_iload_n hx hb d_Plan_bring_18 rfl (lv_at hl 3 rfl) ?_
  refine lv_istore (lv' := [(7, .int (nI x2)), (5, .long (hh_min x3 (LP1 ((x2 * 9) + 8)))), (0, .ref (aP 0)), (1, .int (nI x1)), (2, .int (nI x2)), (3, .long x3)]) hx hb d_Plan_bring_19 hl (by decide) rfl (fun ls hl => ?_)
  refine lv_iconst (v := nI 0) hx hb d_Plan_bring_21 (by decide) ?_
  refine lv_istore (lv' := [(8, .int (nI 0)), (7, .int (nI x2)), (5, .long (hh_min x3 (LP1 ((x2 * 9) + 8)))), (0, .ref (aP 0)), (1, .int (nI x1)), (2, .int (nI x2)), (3, .long x3)]) hx hb d_Plan_bring_22 hl (by decide) rfl (fun ls hl => ?_)
  obtain ⟨k_24, hk_24, hR⟩ : ∃ k, (f_Plan_bring_x24 IP1 x1 x2 LP1) = k ∧ f_Plan_bring_h24 IP1 x1 LP1 k 13 (hh_min x3 (LP1 ((x2 * 9) + 8))) x2 0 = r0 := ⟨_, rfl, hR⟩
  have X_24 : ∀ (x5_24 : Int64) (x7_24 : Nat) (x8_24 : Nat) (hi : x8_24 ≤ 12) (hrc : Rc x7_24) (H : Heap) (locs : List Loc) (hP : va_P (dC, dI) vwCl (w_P cI cJ cZ aP VP0 VP1 VP2 NP0 LP0 LP1 LP2 LP3 LP4 IP0 IP1 aS ++ w_S cI cJ cZ aS VS0 VS1 VS2 NS0 NS1 NS2 LS0 LS1 LS2 LS3 LS4 LS5 LS6 LS7 LS8 IS0 aY ++ w_Y cI cJ cZ aY VY0 LY0 LY1 LY2 IY0) H) (hD : va_D A (w_P cI cJ cZ aP VP0 VP1 VP2 NP0 LP0 LP1 LP2 LP3 LP4 IP0 IP1 aS ++ w_S cI cJ cZ aS VS0 VS1 VS2 NS0 NS1 NS2 LS0 LS1 LS2 LS3 LS4 LS5 LS6 LS7 LS8 IS0 aY ++ w_Y cI cJ cZ aY VY0 LY0 LY1 LY2 IY0)) (hS : va_S A s.heap H locs) (ls : Array Slot) (hl : lv_has ls 10 [(0, .ref (aP 0)), (1, .int (nI x1)), (2, .int (nI x2)), (3, .long x3), (5, .long x5_24), (7, .int (nI x7_24)), (8, .int (nI x8_24))]) (hR : k_24 x5_24 x7_24 x8_24 = r0), W p l e (headSpec u_Plan_bring ({ frames := 1, cells := 0, slots := 0, locals := 23 })).room s m ([.ref (aP 0), .int (nI x1), .int (nI x2), .long x3]).toArray below meth c H locs 0 0 (hh_Zl below (dC, dI) vwCl [(cI, .int), (cJ, .long), (cZ, .boolean)] A r0.1 (w_P cI cJ cZ aP VP0 VP1 VP2 NP0 LP0 r0.2 LP2 LP3 LP4 IP0 IP1 aS ++ w_S cI cJ cZ aS VS0 VS1 VS2 NS0 NS1 NS2 LS0 LS1 LS2 LS3 LS4 LS5 LS6 LS7 LS8 IS0 aY ++ w_Y cI cJ cZ aY VY0 LY0 LY1 LY2 IY0) ([.ref (aP 0), .int (nI x1), .int (nI x2), .long x3]).toArray s) (F0 m 92 ls []) := by
    intro x5_24 x7_24 x8_24 hi hrc H locs hP hD hS ls hl hR
    rw [← hk_24] at hR
    unfold f_Plan_bring_x24 at hR
    refine lv_aload_n hx hb d_Plan_bring_92 rfl (lv_at hl 0 rfl) ?_
    refine va_get (D := (dC, dI)) (ci := 0) (v := .ref (aP 2)) (C := R_Plan) (T := T_Plan) (N := 12) hx hb hG in_Plan hown hK hP 0 rfl rfl 4 (by decide) (hG _ m_135) (fun _ h9 => h9) rfl d_Plan_bring_93 ?_
    refine lv_iload_n hx hb d_Plan_bring_96 rfl (lv_at hl 2 rfl) ?_
    refine lv_bipush (v := nI 9) hx hb d_Plan_bring_97 (by decide) ?_
    refine hw_imul hx hb d_Plan_bring_99 ?_
    refine lv_bipush (v := nI 8) hx hb d_Plan_bring_100 (by decide) ?_
    refine hw_iadd hx hb d_Plan_bring_102 ?_
    refine lv_dup2_11 hx hb d_Plan_bring_103 rfl rfl ?_
    refine hw_lald (f := LP1) hx hb hK hP 2 1 rfl rfl (by decide) (by omega) d_Plan_bring_104 ?_
    refine lv_lload hx hb d_Plan_bring_105 (lv_at hl 4 rfl) ?_
    refine lv_lsub hx hb d_Plan_bring_107 ?_
    refine hw_last (f := LP1) hx hb hK hP hD hS 2 1 rfl rfl (by decide) (by omega) d_Plan_bring_108 (fun H locs hP hD hS => ?_)
    have hP : va_P (dC, dI) vwCl (w_P cI cJ cZ aP VP0 VP1 VP2 NP0 LP0 (vp_updL LP1 ((x2 * 9) + 8) ((LP1 ((x2 * 9) + 8)) - x5_24)) LP2 LP3 LP4 IP0 IP1 aS ++ w_S cI cJ cZ aS VS0 VS1 VS2 NS0 NS1 NS2 LS0 LS1 LS2 LS3 LS4 LS5 LS6 LS7 LS8 IS0 aY ++ w_Y cI cJ cZ aY VY0 LY0 LY1 LY2 IY0) H := hP
    have hD : va_D A (w_P cI cJ cZ aP VP0 VP1 VP2 NP0 LP0 (vp_updL LP1 ((x2 * 9) + 8) ((LP1 ((x2 * 9) + 8)) - x5_24)) LP2 LP3 LP4 IP0 IP1 aS ++ w_S cI cJ cZ aS VS0 VS1 VS2 NS0 NS1 NS2 LS0 LS1 LS2 LS3 LS4 LS5 LS6 LS7 LS8 IS0 aY ++ w_Y cI cJ cZ aY VY0 LY0 LY1 LY2 IY0) := hD
    refine lv_iload_n hx hb d_Plan_bring_109 rfl (lv_at hl 2 rfl) ?_
    refine lv_istore (lv' := [(7, .int (nI x2)), (0, .ref (aP 0)), (1, .int (nI x1)), (2, .int (nI x2)), (3, .long x3), (5, .long x5_24), (8, .int (nI x8_24))]) hx hb d_Plan_bring_110 hl (by decide) rfl (fun ls hl => ?_)
    refine lv_iconst (v := nI 0) hx hb d_Plan_bring_112 (by decide) ?_
    refine lv_istore (lv' := [(8, .int (nI 0)), (7, .int (nI x2)), (0, .ref (aP 0)), (1, .int (nI x1)), (2, .int (nI x2)), (3, .long x3), (5, .long x5_24)]) hx hb d_Plan_bring_113 hl (by decide) rfl (fun ls hl => ?_)
    obtain ⟨k_115, hk_115, hR⟩ : ∃ k, (f_Plan_bring_x115 x5_24 x1) = k ∧ f_Plan_bring_h115 IP1 x1 x5_24 k 13 x2 0 (vp_updL LP1 ((x2 * 9) + 8) ((LP1 ((x2 * 9) + 8)) - x5_24)) = r0 := ⟨_, rfl, hR⟩
    have X_115 : ∀ (x7_115 : Nat) (x8_115 : Nat) (LP1_115 : Nat → Int64) (hi : x8_115 ≤ 12) (hrc : Rc x7_115) (H : Heap) (locs : List Loc) (hP : va_P (dC, dI) vwCl (w_P cI cJ cZ aP VP0 VP1 VP2 NP0 LP0 LP1_115 LP2 LP3 LP4 IP0 IP1 aS ++ w_S cI cJ cZ aS VS0 VS1 VS2 NS0 NS1 NS2 LS0 LS1 LS2 LS3 LS4 LS5 LS6 LS7 LS8 IS0 aY ++ w_Y cI cJ cZ aY VY0 LY0 LY1 LY2 IY0) H) (hD : va_D A (w_P cI cJ cZ aP VP0 VP1 VP2 NP0 LP0 LP1_115 LP2 LP3 LP4 IP0 IP1 aS ++ w_S cI cJ cZ aS VS0 VS1 VS2 NS0 NS1 NS2 LS0 LS1 LS2 LS3 LS4 LS5 LS6 LS7 LS8 IS0 aY ++ w_Y cI cJ cZ aY VY0 LY0 LY1 LY2 IY0)) (hS : va_S A s.heap H locs) (ls : Array Slot) (hl : lv_has ls 10 [(0, .ref (aP 0)), (1, .int (nI x1)), (2, .int (nI x2)), (3, .long x3), (5, .long x5_24), (7, .int (nI x7_115)), (8, .int (nI x8_115))]) (hR : k_115 x7_115 x8_115 LP1_115 = r0), W p l e (headSpec u_Plan_bring ({ frames := 1, cells := 0, slots := 0, locals := 23 })).room s m ([.ref (aP 0), .int (nI x1), .int (nI x2), .long x3]).toArray below meth c H locs 0 0 (hh_Zl below (dC, dI) vwCl [(cI, .int), (cJ, .long), (cZ, .boolean)] A r0.1 (w_P cI cJ cZ aP VP0 VP1 VP2 NP0 LP0 r0.2 LP2 LP3 LP4 IP0 IP1 aS ++ w_S cI cJ cZ aS VS0 VS1 VS2 NS0 NS1 NS2 LS0 LS1 LS2 LS3 LS4 LS5 LS6 LS7 LS8 IS0 aY ++ w_Y cI cJ cZ aY VY0 LY0 LY1 LY2 IY0) ([.ref (aP 0), .int (nI x1), .int (nI x2), .long x3]).toArray s) (F0 m 202 ls []) := by
      intro x7_115 x8_115 LP1_115 hi hrc H locs hP hD hS ls hl hR
      rw [← hk_115] at hR
      unfold f_Plan_bring_x115 at hR
      have hl7 := (hRc x7_115 hrc).1
      refine lv_aload_n hx hb d_Plan_bring_202 rfl (lv_at hl 0 rfl) ?_
      refine va_get (D := (dC, dI)) (ci := 0) (v := .ref (aP 2)) (C := R_Plan) (T := T_Plan) (N := 12) hx hb hG in_Plan hown hK hP 0 rfl rfl 4 (by decide) (hG _ m_135) (fun _ h9 => h9) rfl d_Plan_bring_203 ?_
      refine lv_iload hx hb d_Plan_bring_206 (lv_at hl 5 rfl) ?_
      refine lv_bipush (v := nI 9) hx hb d_Plan_bring_208 (by decide) ?_
      refine hw_imul hx hb d_Plan_bring_210 ?_
      refine lv_iload_n hx hb d_Plan_bring_211 rfl (lv_at hl 1 rfl) ?_
      refine hw_iadd hx hb d_Plan_bring_212 ?_
      refine lv_dup2_11 hx hb d_Plan_bring_213 rfl rfl ?_
      refine hw_lald (f := LP1_115) hx hb hK hP 2 1 rfl rfl (by decide) (by omega) d_Plan_bring_214 ?_
      refine lv_lload hx hb d_Plan_bring_215 (lv_at hl 4 rfl) ?_
      refine lv_ladd hx hb d_Plan_bring_217 ?_
      refine hw_last (f := LP1_115) hx hb hK hP hD hS 2 1 rfl rfl (by decide) (by omega) d_Plan_bring_218 (fun H locs hP hD hS => ?_)
      have hP : va_P (dC, dI) vwCl (w_P cI cJ cZ aP VP0 VP1 VP2 NP0 LP0 (vp_updL LP1_115 ((x7_115 * 9) + x1) ((LP1_115 ((x7_115 * 9) + x1)) + x5_24)) LP2 LP3 LP4 IP0 IP1 aS ++ w_S cI cJ cZ aS VS0 VS1 VS2 NS0 NS1 NS2 LS0 LS1 LS2 LS3 LS4 LS5 LS6 LS7 LS8 IS0 aY ++ w_Y cI cJ cZ aY VY0 LY0 LY1 LY2 IY0) H := hP
      have hD : va_D A (w_P cI cJ cZ aP VP0 VP1 VP2 NP0 LP0 (vp_updL LP1_115 ((x7_115 * 9) + x1) ((LP1_115 ((x7_115 * 9) + x1)) + x5_24)) LP2 LP3 LP4 IP0 IP1 aS ++ w_S cI cJ cZ aS VS0 VS1 VS2 NS0 NS1 NS2 LS0 LS1 LS2 LS3 LS4 LS5 LS6 LS7 LS8 IS0 aY ++ w_Y cI cJ cZ aY VY0 LY0 LY1 LY2 IY0) := hD
      refine lv_lload hx hb d_Plan_bring_219 (lv_at hl 4 rfl) ?_
      subst hR
      exact W.lret (v := x5_24) hx hb hr (fun t ht hW => ⟨⟨_, (), rfl, rfl, by rw [ht]; exact hP, va_K.moved hW.alike hK, hD⟩, hS.F ht⟩) hS.2.2 d_Plan_bring_221
    have L_115 : ∀ (n : Nat) (x7_115 : Nat) (x8_115 : Nat) (LP1_115 : Nat → Int64) (hi : x8_115 ≤ 12) (hrc : Rc x7_115) (hfu : 12 - x8_115 < n) (H : Heap) (locs : List Loc) (hP : va_P (dC, dI) vwCl (w_P cI cJ cZ aP VP0 VP1 VP2 NP0 LP0 LP1_115 LP2 LP3 LP4 IP0 IP1 aS ++ w_S cI cJ cZ aS VS0 VS1 VS2 NS0 NS1 NS2 LS0 LS1 LS2 LS3 LS4 LS5 LS6 LS7 LS8 IS0 aY ++ w_Y cI cJ cZ aY VY0 LY0 LY1 LY2 IY0) H) (hD : va_D A (w_P cI cJ cZ aP VP0 VP1 VP2 NP0 LP0 LP1_115 LP2 LP3 LP4 IP0 IP1 aS ++ w_S cI cJ cZ aS VS0 VS1 VS2 NS0 NS1 NS2 LS0 LS1 LS2 LS3 LS4 LS5 LS6 LS7 LS8 IS0 aY ++ w_Y cI cJ cZ aY VY0 LY0 LY1 LY2 IY0)) (hS : va_S A s.heap H locs) (ls : Array Slot) (hl : lv_has ls 10 [(0, .ref (aP 0)), (1, .int (nI x1)), (2, .int (nI x2)), (3, .long x3), (5, .long x5_24), (7, .int (nI x7_115)), (8, .int (nI x8_115))]) (hR : f_Plan_bring_h115 IP1 x1 x5_24 k_115 n x7_115 x8_115 LP1_115 = r0), W p l e (headSpec u_Plan_bring ({ frames := 1, cells := 0, slots := 0, locals := 23 })).room s m ([.ref (aP 0), .int (nI x1), .int (nI x2), .long x3]).toArray below meth c H locs 0 0 (hh_Zl below (dC, dI) vwCl [(cI, .int), (cJ, .long), (cZ, .boolean)] A r0.1 (w_P cI cJ cZ aP VP0 VP1 VP2 NP0 LP0 r0.2 LP2 LP3 LP4 IP0 IP1 aS ++ w_S cI cJ cZ aS VS0 VS1 VS2 NS0 NS1 NS2 LS0 LS1 LS2 LS3 LS4 LS5 LS6 LS7 LS8 IS0 aY ++ w_Y cI cJ cZ aY VY0 LY0 LY1 LY2 IY0) ([.ref (aP 0), .int (nI x1), .int (nI x2), .long x3]).toArray s) (F0 m 115 ls []) := by
      intro n
      induction n with
      | zero =>
        intro x7_115 x8_115 LP1_115 hi hrc hfu H locs hP hD hS ls hl hR
        exact absurd hfu (Nat.not_lt_zero _)
      | succ n ih_115 =>
        intro x7_115 x8_115 LP1_115 hi hrc hfu H locs hP hD hS ls hl hR
        rw [f_Plan_bring_h115] at hR
        obtain ⟨rec_115, hrec_115, hR⟩ : ∃ r, r = _ ∧ f_Plan_bring_h115B IP1 x1 x5_24 k_115 r x7_115 x8_115 LP1_115 = r0 := ⟨_, rfl, hR⟩
        unfold f_Plan_bring_h115B at hR
        refine lv_iload hx hb d_Plan_bring_115 (lv_at hl 6 rfl) ?_
        refine lv_bipush (v := nI 12) hx hb d_Plan_bring_117 (by decide) ?_
        refine hw_icmp_ge (tgt := 202) hx hb d_Plan_bring_119 (by decide) (by omega) (by omega) (fun c119 => ?_) (fun c119 => ?_)
        · replace hR := (if_pos c119).symm.trans hR
          exact X_115 x7_115 x8_115 LP1_115 (by first | assumption | omega | exact hw_upb (by assumption) (by omega)) (by first | assumption | omega | exact hw_upb (by assumption) (by omega)) H locs hP hD hS ls (lv_sub hl [0, 1, 2, 3, 4, 5, 6] rfl) hR
        · replace hR := (if_neg c119).symm.trans hR
          have hl7 := (hRc x7_115 hrc).1
          refine lv_aload_n hx hb d_Plan_bring_122 rfl (lv_at hl 0 rfl) ?_
          refine va_get (D := (dC, dI)) (ci := 0) (v := .ref (aP 7)) (C := R_Plan) (T := T_Plan) (N := 12) hx hb hG in_Plan hown hK hP 0 rfl rfl 9 (by decide) (hG _ m_140) (fun _ h9 => h9) rfl d_Plan_bring_123 ?_
          refine lv_iload hx hb d_Plan_bring_126 (lv_at hl 5 rfl) ?_
          refine hw_iald (f := IP1) hx hb hK hP 7 0 rfl rfl (by decide) (by omega) d_Plan_bring_128 ?_
          refine lv_bipush (v := nI 12) hx hb d_Plan_bring_129 (by decide) ?_
          refine lv_iload_n hx hb d_Plan_bring_131 rfl (lv_at hl 1 rfl) ?_
          refine hw_iadd hx hb d_Plan_bring_132 ?_
          refine lv_icmp_eq (tgt := 202) hx hb d_Plan_bring_133 (by decide) (fun c133 => ?_) (fun c133 => ?_)
          · replace hR := (if_pos c133).symm.trans hR
            exact X_115 x7_115 x8_115 LP1_115 (by first | assumption | omega | exact hw_upb (by assumption) (by omega)) (by first | assumption | omega | exact hw_upb (by assumption) (by omega)) H locs hP hD hS ls (lv_sub hl [0, 1, 2, 3, 4, 5, 6] rfl) hR
          · replace hR := (if_neg c133).symm.trans hR
            obtain ⟨hl7, h42 | ⟨f0, s0, hf0, e1, e2, hs0⟩⟩ := hRc x7_115 hrc
            · exact absurd h42 c133
            have hs0l := (hRc s0 hs0).1
            have e3 : (IP1 x7_115).toNatClampNeg = 12 + f0 := by rw [e1, nI_clamp (by omega)]
            have e4 : (IP1 (IP1 x7_115).toNatClampNeg).toNatClampNeg = s0 := by rw [e3, e2, nI_clamp (by omega)]
            refine lv_aload_n hx hb d_Plan_bring_136 rfl (lv_at hl 0 rfl) ?_
            refine va_get (D := (dC, dI)) (ci := 0) (v := .ref (aP 7)) (C := R_Plan) (T := T_Plan) (N := 12) hx hb hG in_Plan hown hK hP 0 rfl rfl 9 (by decide) (hG _ m_140) (fun _ h9 => h9) rfl d_Plan_bring_137 ?_
            refine lv_iload hx hb d_Plan_bring_140 (lv_at hl 5 rfl) ?_
            refine hw_iald (f := IP1) hx hb hK hP 7 0 rfl rfl (by decide) (by omega) d_Plan_bring_142 ?_
            refine lv_istore (lv' := [(9, .int (IP1 x7_115)), (0, .ref (aP 0)), (1, .int (nI x1)), (2, .int (nI x2)), (3, .long x3), (5, .long x5_24), (7, .int (nI x7_115)), (8, .int (nI x8_115))]) hx hb d_Plan_bring_143 hl (by decide) rfl (fun ls hl => ?_)
            have en145_9 : nI ((IP1 x7_115).toNatClampNeg) = IP1 x7_115 := by rw [e1, nI_clamp (by omega)]
            have hl : lv_has ls 10 [(9, .int (nI ((IP1 x7_115).toNatClampNeg))), (0, .ref (aP 0)), (1, .int (nI x1)), (2, .int (nI x2)), (3, .long x3), (5, .long x5_24), (7, .int (nI x7_115)), (8, .int (nI x8_115))] := by rw [en145_9]; exact hl
            refine lv_aload_n hx hb d_Plan_bring_145 rfl (lv_at hl 1 rfl) ?_
            refine va_get (D := (dC, dI)) (ci := 0) (v := .ref (aP 2)) (C := R_Plan) (T := T_Plan) (N := 12) hx hb hG in_Plan hown hK hP 0 rfl rfl 4 (by decide) (hG _ m_135) (fun _ h9 => h9) rfl d_Plan_bring_146 ?_
            refine lv_iload hx hb d_Plan_bring_149 (lv_at hl 6 rfl) ?_
            refine lv_bipush (v := nI 9) hx hb d_Plan_bring_151 (by decide) ?_
            refine hw_imul hx hb d_Plan_bring_153 ?_
            refine lv_iload hx hb d_Plan_bring_154 (lv_at hl 0 rfl) ?_
            refine hw_iadd hx hb d_Plan_bring_156 ?_
            refine lv_bipush (v := nI 12) hx hb d_Plan_bring_157 (by decide) ?_
            refine hw_isub hx hb d_Plan_bring_159 (by omega) ?_
            refine lv_dup2_11 hx hb d_Plan_bring_160 rfl rfl ?_
            refine hw_lald (f := LP1_115) hx hb hK hP 2 1 rfl rfl (by decide) (by omega) d_Plan_bring_161 ?_
            refine lv_lload hx hb d_Plan_bring_162 (lv_at hl 5 rfl) ?_
            refine lv_ladd hx hb d_Plan_bring_164 ?_
            refine hw_last (f := LP1_115) hx hb hK hP hD hS 2 1 rfl rfl (by decide) (by omega) d_Plan_bring_165 (fun H locs hP hD hS => ?_)
            have hP : va_P (dC, dI) vwCl (w_P cI cJ cZ aP VP0 VP1 VP2 NP0 LP0 (vp_updL LP1_115 (((x7_115 * 9) + ((IP1 x7_115).toNatClampNeg)) - 12) ((LP1_115 (((x7_115 * 9) + ((IP1 x7_115).toNatClampNeg)) - 12)) + x5_24)) LP2 LP3 LP4 IP0 IP1 aS ++ w_S cI cJ cZ aS VS0 VS1 VS2 NS0 NS1 NS2 LS0 LS1 LS2 LS3 LS4 LS5 LS6 LS7 LS8 IS0 aY ++ w_Y cI cJ cZ aY VY0 LY0 LY1 LY2 IY0) H := hP
            have hD : va_D A (w_P cI cJ cZ aP VP0 VP1 VP2 NP0 LP0 (vp_updL LP1_115 (((x7_115 * 9) + ((IP1 x7_115).toNatClampNeg)) - 12) ((LP1_115 (((x7_115 * 9) + ((IP1 x7_115).toNatClampNeg)) - 12)) + x5_24)) LP2 LP3 LP4 IP0 IP1 aS ++ w_S cI cJ cZ aS VS0 VS1 VS2 NS0 NS1 NS2 LS0 LS1 LS2 LS3 LS4 LS5 LS6 LS7 LS8 IS0 aY ++ w_Y cI cJ cZ aY VY0 LY0 LY1 LY2 IY0) := hD
            refine lv_aload_n hx hb d_Plan_bring_166 rfl (lv_at hl 1 rfl) ?_
            refine va_get (D := (dC, dI)) (ci := 0) (v := .ref (aP 7)) (C := R_Plan) (T := T_Plan) (N := 12) hx hb hG in_Plan hown hK hP 0 rfl rfl 9 (by decide) (hG _ m_140) (fun _ h9 => h9) rfl d_Plan_bring_167 ?_
            refine lv_iload hx hb d_Plan_bring_170 (lv_at hl 0 rfl) ?_
            refine hw_iald (f := IP1) hx hb hK hP 7 0 rfl rfl (by decide) (by omega) d_Plan_bring_172 ?_
            refine lv_istore (lv' := [(7, .int (IP1 ((IP1 x7_115).toNatClampNeg))), (9, .int (nI ((IP1 x7_115).toNatClampNeg))), (0, .ref (aP 0)), (1, .int (nI x1)), (2, .int (nI x2)), (3, .long x3), (5, .long x5_24), (8, .int (nI x8_115))]) hx hb d_Plan_bring_173 hl (by decide) rfl (fun ls hl => ?_)
            have en175_7 : nI ((IP1 ((IP1 x7_115).toNatClampNeg)).toNatClampNeg) = IP1 ((IP1 x7_115).toNatClampNeg) := by rw [e3, e2, nI_clamp (by omega)]
            have hl : lv_has ls 10 [(7, .int (nI ((IP1 ((IP1 x7_115).toNatClampNeg)).toNatClampNeg))), (9, .int (nI ((IP1 x7_115).toNatClampNeg))), (0, .ref (aP 0)), (1, .int (nI x1)), (2, .int (nI x2)), (3, .long x3), (5, .long x5_24), (8, .int (nI x8_115))] := by rw [en175_7]; exact hl
            refine lv_aload_n hx hb d_Plan_bring_175 rfl (lv_at hl 2 rfl) ?_
            refine va_get (D := (dC, dI)) (ci := 0) (v := .ref (aP 2)) (C := R_Plan) (T := T_Plan) (N := 12) hx hb hG in_Plan hown hK hP 0 rfl rfl 4 (by decide) (hG _ m_135) (fun _ h9 => h9) rfl d_Plan_bring_176 ?_
            refine lv_iload hx hb d_Plan_bring_179 (lv_at hl 0 rfl) ?_
            refine lv_bipush (v := nI 9) hx hb d_Plan_bring_181 (by decide) ?_
            refine hw_imul hx hb d_Plan_bring_183 ?_
            refine lv_iload hx hb d_Plan_bring_184 (lv_at hl 1 rfl) ?_
            refine hw_iadd hx hb d_Plan_bring_186 ?_
            refine lv_bipush (v := nI 12) hx hb d_Plan_bring_187 (by decide) ?_
            refine hw_isub hx hb d_Plan_bring_189 (by omega) ?_
            refine lv_dup2_11 hx hb d_Plan_bring_190 rfl rfl ?_
            refine hw_lald (f := (vp_updL LP1_115 (((x7_115 * 9) + ((IP1 x7_115).toNatClampNeg)) - 12) ((LP1_115 (((x7_115 * 9) + ((IP1 x7_115).toNatClampNeg)) - 12)) + x5_24))) hx hb hK hP 2 1 rfl rfl (by decide) (by omega) d_Plan_bring_191 ?_
            refine lv_lload hx hb d_Plan_bring_192 (lv_at hl 6 rfl) ?_
            refine lv_lsub hx hb d_Plan_bring_194 ?_
            refine hw_last (f := (vp_updL LP1_115 (((x7_115 * 9) + ((IP1 x7_115).toNatClampNeg)) - 12) ((LP1_115 (((x7_115 * 9) + ((IP1 x7_115).toNatClampNeg)) - 12)) + x5_24))) hx hb hK hP hD hS 2 1 rfl rfl (by decide) (by omega) d_Plan_bring_195 (fun H locs hP hD hS => ?_)
            have hP : va_P (dC, dI) vwCl (w_P cI cJ cZ aP VP0 VP1 VP2 NP0 LP0 (vp_updL (vp_updL LP1_115 (((x7_115 * 9) + ((IP1 x7_115).toNatClampNeg)) - 12) ((LP1_115 (((x7_115 * 9) + ((IP1 x7_115).toNatClampNeg)) - 12)) + x5_24)) (((((IP1 ((IP1 x7_115).toNatClampNeg)).toNatClampNeg) * 9) + ((IP1 x7_115).toNatClampNeg)) - 12) (((vp_updL LP1_115 (((x7_115 * 9) + ((IP1 x7_115).toNatClampNeg)) - 12) ((LP1_115 (((x7_115 * 9) + ((IP1 x7_115).toNatClampNeg)) - 12)) + x5_24)) (((((IP1 ((IP1 x7_115).toNatClampNeg)).toNatClampNeg) * 9) + ((IP1 x7_115).toNatClampNeg)) - 12)) - x5_24)) LP2 LP3 LP4 IP0 IP1 aS ++ w_S cI cJ cZ aS VS0 VS1 VS2 NS0 NS1 NS2 LS0 LS1 LS2 LS3 LS4 LS5 LS6 LS7 LS8 IS0 aY ++ w_Y cI cJ cZ aY VY0 LY0 LY1 LY2 IY0) H := hP
            have hD : va_D A (w_P cI cJ cZ aP VP0 VP1 VP2 NP0 LP0 (vp_updL (vp_updL LP1_115 (((x7_115 * 9) + ((IP1 x7_115).toNatClampNeg)) - 12) ((LP1_115 (((x7_115 * 9) + ((IP1 x7_115).toNatClampNeg)) - 12)) + x5_24)) (((((IP1 ((IP1 x7_115).toNatClampNeg)).toNatClampNeg) * 9) + ((IP1 x7_115).toNatClampNeg)) - 12) (((vp_updL LP1_115 (((x7_115 * 9) + ((IP1 x7_115).toNatClampNeg)) - 12) ((LP1_115 (((x7_115 * 9) + ((IP1 x7_115).toNatClampNeg)) - 12)) + x5_24)) (((((IP1 ((IP1 x7_115).toNatClampNeg)).toNatClampNeg) * 9) + ((IP1 x7_115).toNatClampNeg)) - 12)) - x5_24)) LP2 LP3 LP4 IP0 IP1 aS ++ w_S cI cJ cZ aS VS0 VS1 VS2 NS0 NS1 NS2 LS0 LS1 LS2 LS3 LS4 LS5 LS6 LS7 LS8 IS0 aY ++ w_Y cI cJ cZ aY VY0 LY0 LY1 LY2 IY0) := hD
            refine lv_iinc (v := nI (x8_115 + 1)) (lv' := [(8, .int (nI (x8_115 + 1))), (7, .int (nI ((IP1 ((IP1 x7_115).toNatClampNeg)).toNatClampNeg))), (9, .int (nI ((IP1 x7_115).toNatClampNeg))), (0, .ref (aP 0)), (1, .int (nI x1)), (2, .int (nI x2)), (3, .long x3), (5, .long x5_24)]) hx hb d_Plan_bring_196 hl (k := 7) rfl (hw_inc _ 1) (by decide) rfl (fun ls hl => ?_)
            refine lv_goto (tgt := 115) hx hb d_Plan_bring_199 (by decide) ?_
            rw [hrec_115] at hR
            exact ih_115 ((IP1 ((IP1 x7_115).toNatClampNeg)).toNatClampNeg) (x8_115 + 1) (vp_updL (vp_updL LP1_115 (((x7_115 * 9) + ((IP1 x7_115).toNatClampNeg)) - 12) ((LP1_115 (((x7_115 * 9) + ((IP1 x7_115).toNatClampNeg)) - 12)) + x5_24)) (((((IP1 ((IP1 x7_115).toNatClampNeg)).toNatClampNeg) * 9) + ((IP1 x7_115).toNatClampNeg)) - 12) (((vp_updL LP1_115 (((x7_115 * 9) + ((IP1 x7_115).toNatClampNeg)) - 12) ((LP1_115 (((x7_115 * 9) + ((IP1 x7_115).toNatClampNeg)) - 12)) + x5_24)) (((((IP1 ((IP1 x7_115).toNatClampNeg)).toNatClampNeg) * 9) + ((IP1 x7_115).toNatClampNeg)) - 12)) - x5_24)) (by first | assumption | omega | exact hw_upb (by assumption) (by omega)) (by rw [e4]; exact hs0) (by omega) H locs hP hD hS ls (lv_sub hl [3, 4, 5, 6, 7, 1, 0] rfl) hR
    exact L_115 13 x2 0 (vp_updL LP1 ((x2 * 9) + 8) ((LP1 ((x2 * 9) + 8)) - x5_24)) (by first | assumption | omega | exact hw_upb (by assumption) (by omega)) (by first | assumption | omega | exact hw_upb (by assumption) (by omega)) (by omega) H locs hP hD hS ls (lv_sub hl [2, 3, 4, 5, 6, 1, 0] rfl) hR
  have L_24 : ∀ (n : Nat) (x5_24 : Int64) (x7_24 : Nat) (x8_24 : Nat) (hi : x8_24 ≤ 12) (hrc : Rc x7_24) (hfu : 12 - x8_24 < n) (H : Heap) (locs : List Loc) (hP : va_P (dC, dI) vwCl (w_P cI cJ cZ aP VP0 VP1 VP2 NP0 LP0 LP1 LP2 LP3 LP4 IP0 IP1 aS ++ w_S cI cJ cZ aS VS0 VS1 VS2 NS0 NS1 NS2 LS0 LS1 LS2 LS3 LS4 LS5 LS6 LS7 LS8 IS0 aY ++ w_Y cI cJ cZ aY VY0 LY0 LY1 LY2 IY0) H) (hD : va_D A (w_P cI cJ cZ aP VP0 VP1 VP2 NP0 LP0 LP1 LP2 LP3 LP4 IP0 IP1 aS ++ w_S cI cJ cZ aS VS0 VS1 VS2 NS0 NS1 NS2 LS0 LS1 LS2 LS3 LS4 LS5 LS6 LS7 LS8 IS0 aY ++ w_Y cI cJ cZ aY VY0 LY0 LY1 LY2 IY0)) (hS : va_S A s.heap H locs) (ls : Array Slot) (hl : lv_has ls 10 [(0, .ref (aP 0)), (1, .int (nI x1)), (2, .int (nI x2)), (3, .long x3), (5, .long x5_24), (7, .int (nI x7_24)), (8, .int (nI x8_24))]) (hR : f_Plan_bring_h24 IP1 x1 LP1 k_24 n x5_24 x7_24 x8_24 = r0), W p l e (headSpec u_Plan_bring ({ frames := 1, cells := 0, slots := 0, locals := 23 })).room s m ([.ref (aP 0), .int (nI x1), .int (nI x2), .long x3]).toArray below meth c H locs 0 0 (hh_Zl below (dC, dI) vwCl [(cI, .int), (cJ, .long), (cZ, .boolean)] A r0.1 (w_P cI cJ cZ aP VP0 VP1 VP2 NP0 LP0 r0.2 LP2 LP3 LP4 IP0 IP1 aS ++ w_S cI cJ cZ aS VS0 VS1 VS2 NS0 NS1 NS2 LS0 LS1 LS2 LS3 LS4 LS5 LS6 LS7 LS8 IS0 aY ++ w_Y cI cJ cZ aY VY0 LY0 LY1 LY2 IY0) ([.ref (aP 0), .int (nI x1), .int (nI x2), .long x3]).toArray s) (F0 m 24 ls []) := by
    intro n
    induction n with
    | zero =>
      intro x5_24 x7_24 x8_24 hi hrc hfu H locs hP hD hS ls hl hR
      exact absurd hfu (Nat.not_lt_zero _)
    | succ n ih_24 =>
      intro x5_24 x7_24 x8_24 hi hrc hfu H locs hP hD hS ls hl hR
      rw [f_Plan_bring_h24] at hR
      obtain ⟨rec_24, hrec_24, hR⟩ : ∃ r, r = _ ∧ f_Plan_bring_h24B IP1 x1 LP1 k_24 r x5_24 x7_24 x8_24 = r0 := ⟨_, rfl, hR⟩
      unfold f_Plan_bring_h24B at hR
      refine lv_iload hx hb d_Plan_bring_24 (lv_at hl 6 rfl) ?_
      refine lv_bipush (v := nI 12) hx hb d_Plan_bring_26 (by decide) ?_
      refine hw_icmp_ge (tgt := 92) hx hb d_Plan_bring_28 (by decide) (by omega) (by omega) (fun c28 => ?_) (fun c28 => ?_)
      · replace hR := (if_pos c28).symm.trans hR
        exact X_24 x5_24 x7_24 x8_24 (by first | assumption | omega | exact hw_upb (by assumption) (by omega)) (by first | assumption | omega | exact hw_upb (by assumption) (by omega)) H locs hP hD hS ls (lv_sub hl [0, 1, 2, 3, 4, 5, 6] rfl) hR
      · replace hR := (if_neg c28).symm.trans hR
        have hl7 := (hRc x7_24 hrc).1
        refine lv_aload_n hx hb d_Plan_bring_31 rfl (lv_at hl 0 rfl) ?_
        refine va_get (D := (dC, dI)) (ci := 0) (v := .ref (aP 7)) (C := R_Plan) (T := T_Plan) (N := 12) hx hb hG in_Plan hown hK hP 0 rfl rfl 9 (by decide) (hG _ m_140) (fun _ h9 => h9) rfl d_Plan_bring_32 ?_
        refine lv_iload hx hb d_Plan_bring_35 (lv_at hl 5 rfl) ?_
        refine hw_iald (f := IP1) hx hb hK hP 7 0 rfl rfl (by decide) (by omega) d_Plan_bring_37 ?_
        refine lv_bipush (v := nI 12) hx hb d_Plan_bring_38 (by decide) ?_
        refine lv_iload_n hx hb d_Plan_bring_40 rfl (lv_at hl 1 rfl) ?_
        refine hw_iadd hx hb d_Plan_bring_41 ?_
        refine lv_icmp_eq (tgt := 92) hx hb d_Plan_bring_42 (by decide) (fun c42 => ?_) (fun c42 => ?_)
        · replace hR := (if_pos c42).symm.trans hR
          exact X_24 x5_24 x7_24 x8_24 (by first | assumption | omega | exact hw_upb (by assumption) (by omega)) (by first | assumption | omega | exact hw_upb (by assumption) (by omega)) H locs hP hD hS ls (lv_sub hl [0, 1, 2, 3, 4, 5, 6] rfl) hR
        · replace hR := (if_neg c42).symm.trans hR
          obtain ⟨hl7, h42 | ⟨f0, s0, hf0, e1, e2, hs0⟩⟩ := hRc x7_24 hrc
          · exact absurd h42 c42
          have hs0l := (hRc s0 hs0).1
          have e3 : (IP1 x7_24).toNatClampNeg = 12 + f0 := by rw [e1, nI_clamp (by omega)]
          have e4 : (IP1 (IP1 x7_24).toNatClampNeg).toNatClampNeg = s0 := by rw [e3, e2, nI_clamp (by omega)]
          refine lv_aload_n hx hb d_Plan_bring_45 rfl (lv_at hl 0 rfl) ?_
          refine va_get (D := (dC, dI)) (ci := 0) (v := .ref (aP 7)) (C := R_Plan) (T := T_Plan) (N := 12) hx hb hG in_Plan hown hK hP 0 rfl rfl 9 (by decide) (hG _ m_140) (fun _ h9 => h9) rfl d_Plan_bring_46 ?_
          refine lv_iload hx hb d_Plan_bring_49 (lv_at hl 5 rfl) ?_
          refine hw_iald (f := IP1) hx hb hK hP 7 0 rfl rfl (by decide) (by omega) d_Plan_bring_51 ?_
          refine lv_istore (lv' := [(9, .int (IP1 x7_24)), (0, .ref (aP 0)), (1, .int (nI x1)), (2, .int (nI x2)), (3, .long x3), (5, .long x5_24), (7, .int (nI x7_24)), (8, .int (nI x8_24))]) hx hb d_Plan_bring_52 hl (by decide) rfl (fun ls hl => ?_)
          have en54_9 : nI ((IP1 x7_24).toNatClampNeg) = IP1 x7_24 := by rw [e1, nI_clamp (by omega)]
          have hl : lv_has ls 10 [(9, .int (nI ((IP1 x7_24).toNatClampNeg))), (0, .ref (aP 0)), (1, .int (nI x1)), (2, .int (nI x2)), (3, .long x3), (5, .long x5_24), (7, .int (nI x7_24)), (8, .int (nI x8_24))] := by rw [en54_9]; exact hl
          refine lv_aload_n hx hb d_Plan_bring_54 rfl (lv_at hl 1 rfl) ?_
          refine va_get (D := (dC, dI)) (ci := 0) (v := .ref (aP 7)) (C := R_Plan) (T := T_Plan) (N := 12) hx hb hG in_Plan hown hK hP 0 rfl rfl 9 (by decide) (hG _ m_140) (fun _ h9 => h9) rfl d_Plan_bring_55 ?_
          refine lv_iload hx hb d_Plan_bring_58 (lv_at hl 0 rfl) ?_
          refine hw_iald (f := IP1) hx hb hK hP 7 0 rfl rfl (by decide) (by omega) d_Plan_bring_60 ?_
          refine lv_istore (lv' := [(7, .int (IP1 ((IP1 x7_24).toNatClampNeg))), (9, .int (nI ((IP1 x7_24).toNatClampNeg))), (0, .ref (aP 0)), (1, .int (nI x1)), (2, .int (nI x2)), (3, .long x3), (5, .long x5_24), (8, .int (nI x8_24))]) hx hb d_Plan_bring_61 hl (by decide) rfl (fun ls hl => ?_)
          have en63_7 : nI ((IP1 ((IP1 x7_24).toNatClampNeg)).toNatClampNeg) = IP1 ((IP1 x7_24).toNatClampNeg) := by rw [e3, e2, nI_clamp (by omega)]
          have hl : lv_has ls 10 [(7, .int (nI ((IP1 ((IP1 x7_24).toNatClampNeg)).toNatClampNeg))), (9, .int (nI ((IP1 x7_24).toNatClampNeg))), (0, .ref (aP 0)), (1, .int (nI x1)), (2, .int (nI x2)), (3, .long x3), (5, .long x5_24), (8, .int (nI x8_24))] := by rw [en63_7]; exact hl
          refine lv_lload hx hb d_Plan_bring_63 (lv_at hl 6 rfl) ?_
          refine lv_aload_n hx hb d_Plan_bring_65 rfl (lv_at hl 2 rfl) ?_
          refine va_get (D := (dC, dI)) (ci := 0) (v := .ref (aP 2)) (C := R_Plan) (T := T_Plan) (N := 12) hx hb hG in_Plan hown hK hP 0 rfl rfl 4 (by decide) (hG _ m_135) (fun _ h9 => h9) rfl d_Plan_bring_66 ?_
          refine lv_iload hx hb d_Plan_bring_69 (lv_at hl 0 rfl) ?_
          refine lv_bipush (v := nI 9) hx hb d_Plan_bring_71 (by decide) ?_
          refine hw_imul hx hb d_Plan_bring_73 ?_
          refine lv_iload hx hb d_Plan_bring_74 (lv_at hl 1 rfl) ?_
          refine hw_iadd hx hb d_Plan_bring_76 ?_
          refine lv_bipush (v := nI 12) hx hb d_Plan_bring_77 (by decide) ?_
          refine hw_isub hx hb d_Plan_bring_79 (by omega) ?_
          refine hw_lald (f := LP1) hx hb hK hP 2 1 rfl rfl (by decide) (by omega) d_Plan_bring_80 ?_
          refine hw_mmin hx hb (hml.trans hl.1.symm) hown (hG _ m_425) (hG _ m_407) (hG _ m_12) (hG _ m_408) (Nat.le_of_ble_eq_true rfl) (Nat.le_of_ble_eq_true rfl) (Nat.zero_le _) (Nat.zero_le _) d_Plan_bring_81 ?_
          refine lv_lstore (lv' := [(5, .long (hh_min x5_24 (LP1 (((((IP1 ((IP1 x7_24).toNatClampNeg)).toNatClampNeg) * 9) + ((IP1 x7_24).toNatClampNeg)) - 12)))), (7, .int (nI ((IP1 ((IP1 x7_24).toNatClampNeg)).toNatClampNeg))), (9, .int (nI ((IP1 x7_24).toNatClampNeg))), (0, .ref (aP 0)), (1, .int (nI x1)), (2, .int (nI x2)), (3, .long x3), (8, .int (nI x8_24))]) hx hb d_Plan_bring_84 hl (by decide) rfl (fun ls hl => ?_)
          refine lv_iinc (v := nI (x8_24 + 1)) (lv' := [(8, .int (nI (x8_24 + 1))), (5, .long (hh_min x5_24 (LP1 (((((IP1 ((IP1 x7_24).toNatClampNeg)).toNatClampNeg) * 9) + ((IP1 x7_24).toNatClampNeg)) - 12)))), (7, .int (nI ((IP1 ((IP1 x7_24).toNatClampNeg)).toNatClampNeg))), (9, .int (nI ((IP1 x7_24).toNatClampNeg))), (0, .ref (aP 0)), (1, .int (nI x1)), (2, .int (nI x2)), (3, .long x3)]) hx hb d_Plan_bring_86 hl (k := 7) rfl (hw_inc _ 1) (by decide) rfl (fun ls hl => ?_)
          refine lv_goto (tgt := 24) hx hb d_Plan_bring_89 (by decide) ?_
          rw [hrec_24] at hR
          exact ih_24 (hh_min x5_24 (LP1 (((((IP1 ((IP1 x7_24).toNatClampNeg)).toNatClampNeg) * 9) + ((IP1 x7_24).toNatClampNeg)) - 12))) ((IP1 ((IP1 x7_24).toNatClampNeg)).toNatClampNeg) (x8_24 + 1) (by first | assumption | omega | exact hw_upb (by assumption) (by omega)) (by rw [e4]; exact hs0) (by omega) H locs hP hD hS ls (lv_sub hl [4, 5, 6, 7, 1, 2, 0] rfl) hR
  exact L_24 13 (hh_min x3 (LP1 ((x2 * 9) + 8))) x2 0 (by first | assumption | omega | exact hw_upb (by assumption) (by omega)) (by first | assumption | omega | exact hw_upb (by assumption) (by omega)) (by omega) H locs hP hD hS ls (lv_sub hl [3, 4, 5, 6, 2, 1, 0] rfl) hR
def f_Plan_serve_h13B (VP0 : Nat) (VP1 : Nat) (LP0 : Nat → Int64) (x1 : Nat) (k_13 : (Int64) → (Nat) → (Nat → Int64) → (Nat → Int64) → (Nat → Int64) → (Nat → Int64) → (Nat → Int32) → (Nat → Int32) → Int32 × (Nat → Int64) × (Nat → Int64) × (Nat → Int64) × (Nat → Int64) × (Nat → Int32) × (Nat → Int32)) (rec_13 : (Int64) → (Nat) → (Nat → Int64) → (Nat → Int64) → (Nat → Int64) → (Nat → Int64) → (Nat → Int32) → (Nat → Int32) → Int32 × (Nat → Int64) × (Nat → Int64) × (Nat → Int64) × (Nat → Int64) × (Nat → Int32) × (Nat → Int32)) (x2_13 : Int64) (x4_13 : Nat) (LP1_13 : Nat → Int64) (LP2_13 : Nat → Int64) (LP3_13 : Nat → Int64) (LP4_13 : Nat → Int64) (IP0_13 : Nat → Int32) (IP1_13 : Nat → Int32) : Int32 × (Nat → Int64) × (Nat → Int64) × (Nat → Int64) × (Nat → Int64) × (Nat → Int32) × (Nat → Int32) :=
  if 1000000 ≤ x4_13 then (k_13 x2_13 x4_13 LP1_13 LP2_13 LP3_13 LP4_13 IP0_13 IP1_13) else (if x2_13 ≤ 0 then (k_13 x2_13 x4_13 LP1_13 LP2_13 LP3_13 LP4_13 IP0_13 IP1_13) else (hh_bind (f_Plan_search VP0 VP1 LP0 LP1_13 LP2_13 LP3_13 LP4_13 IP0_13 IP1_13 (12 + x1)) (fun y31 => if 0 ≤ y31.1 then (hh_bind (f_Plan_raiseWorths VP0 VP1 LP2_13 LP3_13 y31.2.1 ((y31.2.1 y31.1.toNatClampNeg) / 32)) (fun y55 => hh_bind (f_Plan_bring LP1_13 y31.2.2.2 x1 y31.1.toNatClampNeg x2_13) (fun y64 => rec_13 (x2_13 - y64.1) (x4_13 + 1) y64.2 y55.1 y55.2 y31.2.1 y31.2.2.1 y31.2.2.2))) else (nI 0, LP1_13, LP2_13, LP3_13, y31.2.1, y31.2.2.1, y31.2.2.2))))
def f_Plan_serve_h13 (VP0 : Nat) (VP1 : Nat) (LP0 : Nat → Int64) (x1 : Nat) (k_13 : (Int64) → (Nat) → (Nat → Int64) → (Nat → Int64) → (Nat → Int64) → (Nat → Int64) → (Nat → Int32) → (Nat → Int32) → Int32 × (Nat → Int64) × (Nat → Int64) × (Nat → Int64) × (Nat → Int64) × (Nat → Int32) × (Nat → Int32)) : Nat → (Int64) → (Nat) → (Nat → Int64) → (Nat → Int64) → (Nat → Int64) → (Nat → Int64) → (Nat → Int32) → (Nat → Int32) → Int32 × (Nat → Int64) × (Nat → Int64) × (Nat → Int64) × (Nat → Int64) × (Nat → Int32) × (Nat → Int32)
  | 0, x2_13, x4_13, LP1_13, LP2_13, LP3_13, LP4_13, IP0_13, IP1_13 => k_13 x2_13 x4_13 LP1_13 LP2_13 LP3_13 LP4_13 IP0_13 IP1_13
  | n + 1, x2_13, x4_13, LP1_13, LP2_13, LP3_13, LP4_13, IP0_13, IP1_13 => f_Plan_serve_h13B VP0 VP1 LP0 x1 k_13 (fun x2_13 x4_13 LP1_13 LP2_13 LP3_13 LP4_13 IP0_13 IP1_13 => f_Plan_serve_h13 VP0 VP1 LP0 x1 k_13 n x2_13 x4_13 LP1_13 LP2_13 LP3_13 LP4_13 IP0_13 IP1_13) x2_13 x4_13 LP1_13 LP2_13 LP3_13 LP4_13 IP0_13 IP1_13
def f_Plan_serve_x13  (x2_13 : Int64) (x4_13 : Nat) (LP1_13 : Nat → Int64) (LP2_13 : Nat → Int64) (LP3_13 : Nat → Int64) (LP4_13 : Nat → Int64) (IP0_13 : Nat → Int32) (IP1_13 : Nat → Int32) : Int32 × (Nat → Int64) × (Nat → Int64) × (Nat → Int64) × (Nat → Int64) × (Nat → Int32) × (Nat → Int32) :=
  if x2_13 = 0 then (nI 1, LP1_13, LP2_13, LP3_13, LP4_13, IP0_13, IP1_13) else (nI 0, LP1_13, LP2_13, LP3_13, LP4_13, IP0_13, IP1_13)
def f_Plan_serve (VP0 : Nat) (VP1 : Nat) (LP0 : Nat → Int64) (LP1 : Nat → Int64) (LP2 : Nat → Int64) (LP3 : Nat → Int64) (LP4 : Nat → Int64) (IP0 : Nat → Int32) (IP1 : Nat → Int32) (LS4 : Nat → Int64) (x1 : Nat) : Int32 × (Nat → Int64) × (Nat → Int64) × (Nat → Int64) × (Nat → Int64) × (Nat → Int32) × (Nat → Int32) :=
  f_Plan_serve_h13 VP0 VP1 LP0 x1 f_Plan_serve_x13 1000001 (LS4 x1) 0 LP1 LP2 LP3 LP4 IP0 IP1
set_option maxHeartbeats 4000000 in
set_option maxRecDepth 100000 in
theorem c_Plan_serve (l : Launch) (dC : Nat → ClassId) (dI : Nat → Nat → Nat) (cI cJ cZ : ClassId) (sz : Nat) (aP : Nat → Nat) (VP0 : Nat) (VP1 : Nat) (VP2 : Nat) (NP0 : Nat → Nat) (LP0 : Nat → Int64) (LP1 : Nat → Int64) (LP2 : Nat → Int64) (LP3 : Nat → Int64) (LP4 : Nat → Int64) (IP0 : Nat → Int32) (IP1 : Nat → Int32) (aS : Nat → Nat) (VS0 : Nat) (VS1 : Nat) (VS2 : Nat) (NS0 : Nat → Nat) (NS1 : Nat → Nat) (NS2 : Nat → Nat) (LS0 : Nat → Int64) (LS1 : Nat → Int64) (LS2 : Nat → Int64) (LS3 : Nat → Int64) (LS4 : Nat → Int64) (LS5 : Nat → Int64) (LS6 : Nat → Int64) (LS7 : Nat → Int64) (LS8 : Nat → Int64) (IS0 : Nat → Int32) (aY : Nat → Nat) (VY0 : Nat) (LY0 : Nat → Int64) (LY1 : Nat → Int64) (LY2 : Nat → Int64) (IY0 : Nat → Int32) (x1 : Nat) (hs12 : VP0 ≤ 12) (hb8 : VP1 ≤ 8) (hx1 : x1 < 8) : hh_Ci l y_Plan_serve u_Plan_serve ({ frames := 3, cells := 0, slots := 0, locals := 73 }) (dC, dI) vwCl [(cI, .int), (cJ, .long), (cZ, .boolean)] (w_P cI cJ cZ aP VP0 VP1 VP2 NP0 LP0 LP1 LP2 LP3 LP4 IP0 IP1 aS ++ w_S cI cJ cZ aS VS0 VS1 VS2 NS0 NS1 NS2 LS0 LS1 LS2 LS3 LS4 LS5 LS6 LS7 LS8 IS0 aY ++ w_Y cI cJ cZ aY VY0 LY0 LY1 LY2 IY0) sz [.ref (aP 0), .int (nI x1)] ((f_Plan_serve VP0 VP1 LP0 LP1 LP2 LP3 LP4 IP0 IP1 LS4 x1).1) (w_P cI cJ cZ aP VP0 VP1 VP2 NP0 LP0 ((f_Plan_serve VP0 VP1 LP0 LP1 LP2 LP3 LP4 IP0 IP1 LS4 x1).2.1) ((f_Plan_serve VP0 VP1 LP0 LP1 LP2 LP3 LP4 IP0 IP1 LS4 x1).2.2.1) ((f_Plan_serve VP0 VP1 LP0 LP1 LP2 LP3 LP4 IP0 IP1 LS4 x1).2.2.2.1) ((f_Plan_serve VP0 VP1 LP0 LP1 LP2 LP3 LP4 IP0 IP1 LS4 x1).2.2.2.2.1) ((f_Plan_serve VP0 VP1 LP0 LP1 LP2 LP3 LP4 IP0 IP1 LS4 x1).2.2.2.2.2.1) ((f_Plan_serve VP0 VP1 LP0 LP1 LP2 LP3 LP4 IP0 IP1 LS4 x1).2.2.2.2.2.2) aS ++ w_S cI cJ cZ aS VS0 VS1 VS2 NS0 NS1 NS2 LS0 LS1 LS2 LS3 LS4 LS5 LS6 LS7 LS8 IS0 aY ++ w_Y cI cJ cZ aY VY0 LY0 LY1 LY2 IY0) 0 0 := by
  unfold hh_Ci
  refine Met.ofW (cc := b_Plan_serve) (maxL := 6) (ret := (some .boolean)) (by decide) rfl ?_
  intro p e s m args below meth c s₁ B hml hv
  obtain ⟨rfl, hsz, hP, hK, hD0⟩ := hv
  have hx := B.exec
  have hb := B.bytes
  have hr := B.returns
  have hts := atoms_spec (ws := u_Plan_serve) B.pre
  have hG : ∀ w ∈ wG, w.before ([.ref (aP 0), .int (nI x1)]).toArray s = true := fun w h => hts w (List.mem_cons_of_mem _ h)
  have hown : s.vm.findClass R_Plan = some m.cls := findClass_of_methodNamed B.named
  have hlocks := B.notSynchronized
  subst hsz
  have hD := hD0.self (sz := s.heap.size)
  generalize hAe : va_A (w_P cI cJ cZ aP VP0 VP1 VP2 NP0 LP0 LP1 LP2 LP3 LP4 IP0 IP1 aS ++ w_S cI cJ cZ aS VS0 VS1 VS2 NS0 NS1 NS2 LS0 LS1 LS2 LS3 LS4 LS5 LS6 LS7 LS8 IS0 aY ++ w_Y cI cJ cZ aY VY0 LY0 LY1 LY2 IY0) s.heap.size = A at hD ⊢
  have hA : ∀ q : Nat, s.heap.size ≤ q → A q := fun q h => by rw [← hAe]; exact Or.inr h
  have hS : va_S A s.heap s.heap [] := va_S.rf
  have hl := lv_entry ([.ref (aP 0), .int (nI x1)]) (n := 6) (Nat.le_of_ble_eq_true rfl)
  rw [lg_entry_eq]
  generalize (lg_sl ([.ref (aP 0), .int (nI x1)]) ++ List.replicate (6 - (lg_sl ([.ref (aP 0), .int (nI x1)])).length) Slot.unset).toArray = ls at hl ⊢
  have hl : lv_has ls 6 [(0, .ref (aP 0)), (1, .int (nI x1))] := hl
  generalize hR : f_Plan_serve VP0 VP1 LP0 LP1 LP2 LP3 LP4 IP0 IP1 LS4 x1 = r0
  obtain ⟨H, locs, hHe, hle⟩ : ∃ (H : Heap) (locs : List Loc), s.heap = H ∧ [] = locs := ⟨_, _, rfl, rfl⟩
  have hP : va_P (dC, dI) vwCl (w_P cI cJ cZ aP VP0 VP1 VP2 NP0 LP0 LP1 LP2 LP3 LP4 IP0 IP1 aS ++ w_S cI cJ cZ aS VS0 VS1 VS2 NS0 NS1 NS2 LS0 LS1 LS2 LS3 LS4 LS5 LS6 LS7 LS8 IS0 aY ++ w_Y cI cJ cZ aY VY0 LY0 LY1 LY2 IY0) H := by rw [← hHe]; exact hP
  have hS : va_S A s.heap H locs := by rw [← hHe, ← hle]; exact hS
  refine hw_start hHe hle ?_
  unfold f_Plan_serve at hR
  refine lv_aload_n hx hb d_Plan_serve_0 rfl (lv_at hl 0 rfl) ?_
  refine va_get (D := (dC, dI)) (ci := 0) (v := .ref (aS 0)) (C := R_Plan) (T := T_Plan) (N := 12) hx hb hG in_Plan hown hK hP 0 rfl rfl 0 (by decide) (hG _ m_131) (fun _ h9 => h9) rfl d_Plan_serve_1 ?_
  refine va_get (D := (dC, dI)) (ci := 2) (v := .ref (aS 7)) (C := R_Site) (T := T_Site) (N := 17) hx hb hG in_Site hown hK hP 9 rfl rfl 10 (by decide) (hG _ m_74) (fun _ h9 => h9) rfl d_Plan_serve_4 ?_
  refine lv_iload_n hx hb d_Plan_serve_7 rfl (lv_at hl 1 rfl) ?_
  refine hw_lald (f := LS4) hx hb hK hP 16 1 rfl rfl (by decide) (by omega) d_Plan_serve_8 ?_
  refine lv_lstore_n (lv' := [(2, .long (LS4 x1)), (0, .ref (aP 0)), (1, .int (nI x1))]) hx hb d_Plan_serve_9 rfl hl (by decide) rfl (fun ls hl => ?_)
  refine lv_iconst (v := nI 0) hx hb d_Plan_serve_10 (by decide) ?_
  refine lv_istore (lv' := [(4, .int (nI 0)), (2, .long (LS4 x1)), (0, .ref (aP 0)), (1, .int (nI x1))]) hx hb d_Plan_serve_11 hl (by decide) rfl (fun ls hl => ?_)
  obtain ⟨k_13, hk_13, hR⟩ : ∃ k, f_Plan_serve_x13 = k ∧ f_Plan_serve_h13 VP0 VP1 LP0 x1 k 1000001 (LS4 x1) 0 LP1 LP2 LP3 LP4 IP0 IP1 = r0 := ⟨_, rfl, hR⟩
  have X_13 : ∀ (x2_13 : Int64) (x4_13 : Nat) (LP1_13 : Nat → Int64) (LP2_13 : Nat → Int64) (LP3_13 : Nat → Int64) (LP4_13 : Nat → Int64) (IP0_13 : Nat → Int32) (IP1_13 : Nat → Int32) (hi : x4_13 ≤ 1000000) (H : Heap) (locs : List Loc) (hP : va_P (dC, dI) vwCl (w_P cI cJ cZ aP VP0 VP1 VP2 NP0 LP0 LP1_13 LP2_13 LP3_13 LP4_13 IP0_13 IP1_13 aS ++ w_S cI cJ cZ aS VS0 VS1 VS2 NS0 NS1 NS2 LS0 LS1 LS2 LS3 LS4 LS5 LS6 LS7 LS8 IS0 aY ++ w_Y cI cJ cZ aY VY0 LY0 LY1 LY2 IY0) H) (hD : va_D A (w_P cI cJ cZ aP VP0 VP1 VP2 NP0 LP0 LP1_13 LP2_13 LP3_13 LP4_13 IP0_13 IP1_13 aS ++ w_S cI cJ cZ aS VS0 VS1 VS2 NS0 NS1 NS2 LS0 LS1 LS2 LS3 LS4 LS5 LS6 LS7 LS8 IS0 aY ++ w_Y cI cJ cZ aY VY0 LY0 LY1 LY2 IY0)) (hS : va_S A s.heap H locs) (ls : Array Slot) (hl : lv_has ls 6 [(0, .ref (aP 0)), (1, .int (nI x1)), (2, .long x2_13), (4, .int (nI x4_13))]) (hR : k_13 x2_13 x4_13 LP1_13 LP2_13 LP3_13 LP4_13 IP0_13 IP1_13 = r0), W p l e (headSpec u_Plan_serve ({ frames := 3, cells := 0, slots := 0, locals := 73 })).room s m ([.ref (aP 0), .int (nI x1)]).toArray below meth c H locs 0 0 (hh_Zi below (dC, dI) vwCl [(cI, .int), (cJ, .long), (cZ, .boolean)] A r0.1 (w_P cI cJ cZ aP VP0 VP1 VP2 NP0 LP0 r0.2.1 r0.2.2.1 r0.2.2.2.1 r0.2.2.2.2.1 r0.2.2.2.2.2.1 r0.2.2.2.2.2.2 aS ++ w_S cI cJ cZ aS VS0 VS1 VS2 NS0 NS1 NS2 LS0 LS1 LS2 LS3 LS4 LS5 LS6 LS7 LS8 IS0 aY ++ w_Y cI cJ cZ aY VY0 LY0 LY1 LY2 IY0) ([.ref (aP 0), .int (nI x1)]).toArray s) (F0 m 75 ls []) := by
    intro x2_13 x4_13 LP1_13 LP2_13 LP3_13 LP4_13 IP0_13 IP1_13 hi H locs hP hD hS ls hl hR
    rw [← hk_13] at hR
    unfold f_Plan_serve_x13 at hR
    refine lv_lload_n hx hb d_Plan_serve_75 rfl (lv_at hl 2 rfl) ?_
    refine lv_lconst (v := 0) hx hb d_Plan_serve_76 (by decide) ?_
    refine hw_lcmp_ne (tgt := 85) hx hb d_Plan_serve_77 d_Plan_serve_78 (by decide) (fun c77 => ?_) (fun c77 => ?_)
    · replace hR := (if_neg c77).symm.trans hR
      refine lv_iconst (v := nI 0) hx hb d_Plan_serve_85 (by decide) ?_
      subst hR
      exact W.zret (v := nI 0) hx hb hr (by decide) (fun t ht hW => ⟨⟨_, (), rfl, rfl, by rw [ht]; exact hP, va_K.moved hW.alike hK, hD⟩, hS.F ht⟩) hS.2.2 d_Plan_serve_86
    · replace hR := (if_pos c77).symm.trans hR
      refine lv_iconst (v := nI 1) hx hb d_Plan_serve_81 (by decide) ?_
      refine lv_goto (tgt := 86) hx hb d_Plan_serve_82 (by decide) ?_
      subst hR
      exact W.zret (v := nI 1) hx hb hr (by decide) (fun t ht hW => ⟨⟨_, (), rfl, rfl, by rw [ht]; exact hP, va_K.moved hW.alike hK, hD⟩, hS.F ht⟩) hS.2.2 d_Plan_serve_86
  have L_13 : ∀ (n : Nat) (x2_13 : Int64) (x4_13 : Nat) (LP1_13 : Nat → Int64) (LP2_13 : Nat → Int64) (LP3_13 : Nat → Int64) (LP4_13 : Nat → Int64) (IP0_13 : Nat → Int32) (IP1_13 : Nat → Int32) (hi : x4_13 ≤ 1000000) (hfu : 1000000 - x4_13 < n) (H : Heap) (locs : List Loc) (hP : va_P (dC, dI) vwCl (w_P cI cJ cZ aP VP0 VP1 VP2 NP0 LP0 LP1_13 LP2_13 LP3_13 LP4_13 IP0_13 IP1_13 aS ++ w_S cI cJ cZ aS VS0 VS1 VS2 NS0 NS1 NS2 LS0 LS1 LS2 LS3 LS4 LS5 LS6 LS7 LS8 IS0 aY ++ w_Y cI cJ cZ aY VY0 LY0 LY1 LY2 IY0) H) (hD : va_D A (w_P cI cJ cZ aP VP0 VP1 VP2 NP0 LP0 LP1_13 LP2_13 LP3_13 LP4_13 IP0_13 IP1_13 aS ++ w_S cI cJ cZ aS VS0 VS1 VS2 NS0 NS1 NS2 LS0 LS1 LS2 LS3 LS4 LS5 LS6 LS7 LS8 IS0 aY ++ w_Y cI cJ cZ aY VY0 LY0 LY1 LY2 IY0)) (hS : va_S A s.heap H locs) (ls : Array Slot) (hl : lv_has ls 6 [(0, .ref (aP 0)), (1, .int (nI x1)), (2, .long x2_13), (4, .int (nI x4_13))]) (hR : f_Plan_serve_h13 VP0 VP1 LP0 x1 k_13 n x2_13 x4_13 LP1_13 LP2_13 LP3_13 LP4_13 IP0_13 IP1_13 = r0), W p l e (headSpec u_Plan_serve ({ frames := 3, cells := 0, slots := 0, locals := 73 })).room s m ([.ref (aP 0), .int (nI x1)]).toArray below meth c H locs 0 0 (hh_Zi below (dC, dI) vwCl [(cI, .int), (cJ, .long), (cZ, .boolean)] A r0.1 (w_P cI cJ cZ aP VP0 VP1 VP2 NP0 LP0 r0.2.1 r0.2.2.1 r0.2.2.2.1 r0.2.2.2.2.1 r0.2.2.2.2.2.1 r0.2.2.2.2.2.2 aS ++ w_S cI cJ cZ aS VS0 VS1 VS2 NS0 NS1 NS2 LS0 LS1 LS2 LS3 LS4 LS5 LS6 LS7 LS8 IS0 aY ++ w_Y cI cJ cZ aY VY0 LY0 LY1 LY2 IY0) ([.ref (aP 0), .int (nI x1)]).toArray s) (F0 m 13 ls []) := by
    intro n
    induction n with
    | zero =>
      intro x2_13 x4_13 LP1_13 LP2_13 LP3_13 LP4_13 IP0_13 IP1_13 hi hfu H locs hP hD hS ls hl hR
      exact absurd hfu (Nat.not_lt_zero _)
    | succ n ih_13 =>
      intro x2_13 x4_13 LP1_13 LP2_13 LP3_13 LP4_13 IP0_13 IP1_13 hi hfu H locs hP hD hS ls hl hR
      rw [f_Plan_serve_h13] at hR
      obtain ⟨rec_13, hrec_13, hR⟩ : ∃ r, r = _ ∧ f_Plan_serve_h13B VP0 VP1 LP0 x1 k_13 r x2_13 x4_13 LP1_13 LP2_13 LP3_13 LP4_13 IP0_13 IP1_13 = r0 := ⟨_, rfl, hR⟩
      unfold f_Plan_serve_h13B at hR
      refine lv_iload hx hb d_Plan_serve_13 (lv_at hl 3 rfl) ?_
      refine lv_ldc (v := nI 1000000) hx hb hown (hG _ m_413) d_Plan_serve_15 ?_
      refine hw_icmp_ge (tgt := 75) hx hb d_Plan_serve_17 (by decide) (by omega) (by omega) (fun c17 => ?_) (fun c17 => ?_)
      · replace hR := (if_pos c17).symm.trans hR
        exact X_13 x2_13 x4_13 LP1_13 LP2_13 LP3_13 LP4_13 IP0_13 IP1_13 (by first | assumption | omega | exact hw_upb (by assumption) (by omega)) H locs hP hD hS ls (lv_sub hl [0, 1, 2, 3] rfl) hR
      · replace hR := (if_neg c17).symm.trans hR
        refine lv_lload_n hx hb d_Plan_serve_20 rfl (lv_at hl 2 rfl) ?_
        refine lv_lconst (v := 0) hx hb d_Plan_serve_21 (by decide) ?_
        refine hw_lcmp_le (tgt := 75) hx hb d_Plan_serve_22 d_Plan_serve_23 (by decide) (fun c22 => ?_) (fun c22 => ?_)
        · replace hR := (if_pos c22).symm.trans hR
          exact X_13 x2_13 x4_13 LP1_13 LP2_13 LP3_13 LP4_13 IP0_13 IP1_13 (by first | assumption | omega | exact hw_upb (by assumption) (by omega)) H locs hP hD hS ls (lv_sub hl [0, 1, 2, 3] rfl) hR
        · replace hR := (if_neg c22).symm.trans hR
          refine lv_aload_n hx hb d_Plan_serve_26 rfl (lv_at hl 0 rfl) ?_
          refine lv_bipush (v := nI 12) hx hb d_Plan_serve_27 (by decide) ?_
          refine lv_iload_n hx hb d_Plan_serve_29 rfl (lv_at hl 1 rfl) ?_
          refine hw_iadd hx hb d_Plan_serve_30 ?_
          obtain ⟨y31, hy31, hR⟩ := hw_bind hR
          have hM := c_Plan_search l dC dI cI cJ cZ H.size aP VP0 VP1 VP2 NP0 LP0 LP1_13 LP2_13 LP3_13 LP4_13 IP0_13 IP1_13 aS VS0 VS1 VS2 NS0 NS1 NS2 LS0 LS1 LS2 LS3 LS4 LS5 LS6 LS7 LS8 IS0 aY VY0 LY0 LY1 LY2 IY0 (12 + x1) (by first | assumption | omega) (by first | assumption | omega) (by first | assumption | omega)
          rw [hy31] at hM
          refine hw_callVi (As := [.int (nI (12 + x1))]) (rest := []) (wr := ([] : va_W)) ⟨hx, hb, hml, hown, hG⟩ hM (hw_cwV 1 hG m_331 m_333 mp_0 m_5 m_334 rfl rfl (by decide +kernel) ⟨Nat.le_of_ble_eq_true rfl, Nat.le_of_ble_eq_true rfl⟩) hK hP hD hS hA [0, 1, 2, 3, 4, 5, 6, 7, 8, 9, 10, 11, 12, 13, 14, 15, 16, 17, 18, 19, 20, 21, 22, 23, 24, 25, 26, 27] [] rfl rfl (by decide) (by decide) (by decide) (hw_recv hK hP 0 rfl rfl) rfl hl.1 rfl (Nat.le_of_ble_eq_true rfl) d_Plan_serve_31 ⟨Nat.le_of_ble_eq_true rfl, Nat.le_of_ble_eq_true rfl⟩ (fun H locs hP hD hS => ?_)
          have hP : va_P (dC, dI) vwCl (w_P cI cJ cZ aP VP0 VP1 VP2 NP0 LP0 LP1_13 LP2_13 LP3_13 y31.2.1 y31.2.2.1 y31.2.2.2 aS ++ w_S cI cJ cZ aS VS0 VS1 VS2 NS0 NS1 NS2 LS0 LS1 LS2 LS3 LS4 LS5 LS6 LS7 LS8 IS0 aY ++ w_Y cI cJ cZ aY VY0 LY0 LY1 LY2 IY0) H := hP
          have hD : va_D A (w_P cI cJ cZ aP VP0 VP1 VP2 NP0 LP0 LP1_13 LP2_13 LP3_13 y31.2.1 y31.2.2.1 y31.2.2.2 aS ++ w_S cI cJ cZ aS VS0 VS1 VS2 NS0 NS1 NS2 LS0 LS1 LS2 LS3 LS4 LS5 LS6 LS7 LS8 IS0 aY ++ w_Y cI cJ cZ aY VY0 LY0 LY1 LY2 IY0) := hD
          have hfo31 := f_Plan_search_found LP0 LP1_13 LP2_13 LP3_13 LP4_13 IP0_13 IP1_13 (12 + x1) hs12 hb8
          rw [hy31] at hfo31
          have hlt31 := hp_found_lt hfo31
          refine lv_istore (lv' := [(5, .int y31.1), (0, .ref (aP 0)), (1, .int (nI x1)), (2, .long x2_13), (4, .int (nI x4_13))]) hx hb d_Plan_serve_34 hl (by decide) rfl (fun ls hl => ?_)
          refine lv_iload hx hb d_Plan_serve_36 (lv_at hl 0 rfl) ?_
          refine lv_if_ge (tgt := 43) hx hb d_Plan_serve_38 (by decide) (fun c38 => ?_) (fun c38 => ?_)
          · replace hR := (if_pos c38).symm.trans hR
            have hrg := hp_found_ring hfo31 c38
            have en43_5 : nI (y31.1.toNatClampNeg) = y31.1 := hw_nat0 (by assumption)
            have hl : lv_has ls 6 [(5, .int (nI y31.1.toNatClampNeg)), (0, .ref (aP 0)), (1, .int (nI x1)), (2, .long x2_13), (4, .int (nI x4_13))] := by rw [en43_5]; exact hl
            refine lv_aload_n hx hb d_Plan_serve_43 rfl (lv_at hl 1 rfl) ?_
            refine lv_aload_n hx hb d_Plan_serve_44 rfl (lv_at hl 1 rfl) ?_
            refine va_get (D := (dC, dI)) (ci := 0) (v := .ref (aP 5)) (C := R_Plan) (T := T_Plan) (N := 12) hx hb hG in_Plan hown hK hP 0 rfl rfl 7 (by decide) (hG _ m_138) (fun _ h9 => h9) rfl d_Plan_serve_45 ?_
            refine lv_iload hx hb d_Plan_serve_48 (lv_at hl 0 rfl) ?_
            refine hw_lald (f := y31.2.1) hx hb hK hP 5 1 rfl rfl (by decide) (by omega) d_Plan_serve_50 ?_
            refine lv_ldc2 (v := 32) hx hb hown (hG _ m_348) d_Plan_serve_51 ?_
            refine lv_ldiv hx hb d_Plan_serve_54 (by decide) ?_
            obtain ⟨y55, hy55, hR⟩ := hw_bind hR
            have hM := c_Plan_raiseWorths l dC dI cI cJ cZ H.size aP VP0 VP1 VP2 NP0 LP0 LP1_13 LP2_13 LP3_13 y31.2.1 y31.2.2.1 y31.2.2.2 aS VS0 VS1 VS2 NS0 NS1 NS2 LS0 LS1 LS2 LS3 LS4 LS5 LS6 LS7 LS8 IS0 aY VY0 LY0 LY1 LY2 IY0 ((y31.2.1 y31.1.toNatClampNeg) / 32) (by first | assumption | omega) (by first | assumption | omega)
            rw [hy55] at hM
            refine hw_callVv (As := [.long ((y31.2.1 y31.1.toNatClampNeg) / 32)]) (rest := []) (wr := ([] : va_W)) ⟨hx, hb, hml, hown, hG⟩ hM (hw_cwV 1 hG m_414 m_416 mp_7 m_5 m_417 rfl rfl (by decide +kernel) ⟨Nat.le_of_ble_eq_true rfl, Nat.le_of_ble_eq_true rfl⟩) hK hP hD hS hA [0, 1, 2, 3, 4, 5, 6, 7, 8, 9, 10, 11, 12, 13, 14, 15, 16, 17, 18, 19, 20, 21, 22, 23, 24, 25, 26, 27] [] rfl rfl (by decide) (by decide) (by decide) (hw_recv hK hP 0 rfl rfl) rfl hl.1 rfl (Nat.le_of_ble_eq_true rfl) d_Plan_serve_55 ⟨Nat.le_of_ble_eq_true rfl, Nat.le_of_ble_eq_true rfl⟩ (fun H locs hP hD hS => ?_)
            have hP : va_P (dC, dI) vwCl (w_P cI cJ cZ aP VP0 VP1 VP2 NP0 LP0 LP1_13 y55.1 y55.2 y31.2.1 y31.2.2.1 y31.2.2.2 aS ++ w_S cI cJ cZ aS VS0 VS1 VS2 NS0 NS1 NS2 LS0 LS1 LS2 LS3 LS4 LS5 LS6 LS7 LS8 IS0 aY ++ w_Y cI cJ cZ aY VY0 LY0 LY1 LY2 IY0) H := hP
            have hD : va_D A (w_P cI cJ cZ aP VP0 VP1 VP2 NP0 LP0 LP1_13 y55.1 y55.2 y31.2.1 y31.2.2.1 y31.2.2.2 aS ++ w_S cI cJ cZ aS VS0 VS1 VS2 NS0 NS1 NS2 LS0 LS1 LS2 LS3 LS4 LS5 LS6 LS7 LS8 IS0 aY ++ w_Y cI cJ cZ aY VY0 LY0 LY1 LY2 IY0) := hD
            refine lv_lload_n hx hb d_Plan_serve_58 rfl (lv_at hl 3 rfl) ?_
            refine lv_aload_n hx hb d_Plan_serve_59 rfl (lv_at hl 1 rfl) ?_
            refine lv_iload_n hx hb d_Plan_serve_60 rfl (lv_at hl 2 rfl) ?_
            refine lv_iload hx hb d_Plan_serve_61 (lv_at hl 0 rfl) ?_
            refine lv_lload_n hx hb d_Plan_serve_63 rfl (lv_at hl 3 rfl) ?_
            obtain ⟨y64, hy64, hR⟩ := hw_bind hR
            have hM := c_Plan_bring l dC dI cI cJ cZ H.size aP VP0 VP1 VP2 NP0 LP0 LP1_13 y55.1 y55.2 y31.2.1 y31.2.2.1 y31.2.2.2 aS VS0 VS1 VS2 NS0 NS1 NS2 LS0 LS1 LS2 LS3 LS4 LS5 LS6 LS7 LS8 IS0 aY VY0 LY0 LY1 LY2 IY0 x1 y31.1.toNatClampNeg x2_13 (by first | assumption | omega) (by first | assumption | omega) (fun s => s < 12 ∧ y31.2.1 s ≠ 9223372036854775807) (hp_ring hrg.1) hrg.2
            rw [hy64] at hM
            refine hw_callVl (As := [.int (nI x1), .int (nI y31.1.toNatClampNeg), .long x2_13]) (rest := [.long x2_13]) (wr := ([] : va_W)) ⟨hx, hb, hml, hown, hG⟩ hM (hw_cwV 3 hG m_421 m_423 mp_8 m_5 m_424 rfl rfl (by decide +kernel) ⟨Nat.le_of_ble_eq_true rfl, Nat.le_of_ble_eq_true rfl⟩) hK hP hD hS hA [0, 1, 2, 3, 4, 5, 6, 7, 8, 9, 10, 11, 12, 13, 14, 15, 16, 17, 18, 19, 20, 21, 22, 23, 24, 25, 26, 27] [] rfl rfl (by decide) (by decide) (by decide) (hw_recv hK hP 0 rfl rfl) rfl hl.1 rfl (Nat.le_of_ble_eq_true rfl) d_Plan_serve_64 ⟨Nat.le_of_ble_eq_true rfl, Nat.le_of_ble_eq_true rfl⟩ (fun H locs hP hD hS => ?_)
            have hP : va_P (dC, dI) vwCl (w_P cI cJ cZ aP VP0 VP1 VP2 NP0 LP0 y64.2 y55.1 y55.2 y31.2.1 y31.2.2.1 y31.2.2.2 aS ++ w_S cI cJ cZ aS VS0 VS1 VS2 NS0 NS1 NS2 LS0 LS1 LS2 LS3 LS4 LS5 LS6 LS7 LS8 IS0 aY ++ w_Y cI cJ cZ aY VY0 LY0 LY1 LY2 IY0) H := hP
            have hD : va_D A (w_P cI cJ cZ aP VP0 VP1 VP2 NP0 LP0 y64.2 y55.1 y55.2 y31.2.1 y31.2.2.1 y31.2.2.2 aS ++ w_S cI cJ cZ aS VS0 VS1 VS2 NS0 NS1 NS2 LS0 LS1 LS2 LS3 LS4 LS5 LS6 LS7 LS8 IS0 aY ++ w_Y cI cJ cZ aY VY0 LY0 LY1 LY2 IY0) := hD
            refine lv_lsub hx hb d_Plan_serve_67 ?_
            refine lv_lstore_n (lv' := [(2, .long (x2_13 - y64.1)), (5, .int (nI y31.1.toNatClampNeg)), (0, .ref (aP 0)), (1, .int (nI x1)), (4, .int (nI x4_13))]) hx hb d_Plan_serve_68 rfl hl (by decide) rfl (fun ls hl => ?_)
            refine lv_iinc (v := nI (x4_13 + 1)) (lv' := [(4, .int (nI (x4_13 + 1))), (2, .long (x2_13 - y64.1)), (5, .int (nI y31.1.toNatClampNeg)), (0, .ref (aP 0)), (1, .int (nI x1))]) hx hb d_Plan_serve_69 hl (k := 4) rfl (hw_inc _ 1) (by decide) rfl (fun ls hl => ?_)
            refine lv_goto (tgt := 13) hx hb d_Plan_serve_72 (by decide) ?_
            rw [hrec_13] at hR
            exact ih_13 (x2_13 - y64.1) (x4_13 + 1) y64.2 y55.1 y55.2 y31.2.1 y31.2.2.1 y31.2.2.2 (by first | assumption | omega | exact hw_upb (by assumption) (by omega)) (by omega) H locs hP hD hS ls (lv_sub hl [3, 4, 1, 0] rfl) hR
          · replace hR := (if_neg c38).symm.trans hR
            refine lv_iconst (v := nI 0) hx hb d_Plan_serve_41 (by decide) ?_
            subst hR
            exact W.zret (v := nI 0) hx hb hr (by decide) (fun t ht hW => ⟨⟨_, (), rfl, rfl, by rw [ht]; exact hP, va_K.moved hW.alike hK, hD⟩, hS.F ht⟩) hS.2.2 d_Plan_serve_42
  exact L_13 1000001 (LS4 x1) 0 LP1 LP2 LP3 LP4 IP0 IP1 (by first | assumption | omega | exact hw_upb (by assumption) (by omega)) (by omega) H locs hP hD hS ls (lv_sub hl [2, 3, 1, 0] rfl) hR
