abbrev b_Ways_unitPrice : ByteArray := prog_5_method_4_code
def y_Ways_unitPrice : MethodName := ⟨R_Ways, "unitPrice", "(JJII)J"⟩
def u_Ways_unitPrice : List Cond := Cond.code y_Ways_unitPrice b_Ways_unitPrice 14 (some .long) :: wG
theorem d_Ways_unitPrice_0 : decode b_Ways_unitPrice 0 = .ok (.lload_n 1, 1) := by decide +kernel
theorem d_Ways_unitPrice_1 : decode b_Ways_unitPrice 1 = .ok (.lload_n 3, 1) := by decide +kernel
theorem d_Ways_unitPrice_2 : decode b_Ways_unitPrice 2 = .ok (.lsub, 1) := by decide +kernel
theorem d_Ways_unitPrice_3 : decode b_Ways_unitPrice 3 = .ok (.invokestatic 29, 3) := by decide +kernel
theorem d_Ways_unitPrice_6 : decode b_Ways_unitPrice 6 = .ok (.lstore 7, 2) := by decide +kernel
theorem d_Ways_unitPrice_8 : decode b_Ways_unitPrice 8 = .ok (.iconst 0, 1) := by decide +kernel
theorem d_Ways_unitPrice_9 : decode b_Ways_unitPrice 9 = .ok (.istore 9, 2) := by decide +kernel
theorem d_Ways_unitPrice_11 : decode b_Ways_unitPrice 11 = .ok (.iload 9, 2) := by decide +kernel
theorem d_Ways_unitPrice_13 : decode b_Ways_unitPrice 13 = .ok (.aload_n 0, 1) := by decide +kernel
theorem d_Ways_unitPrice_14 : decode b_Ways_unitPrice 14 = .ok (.getfield 25, 3) := by decide +kernel
theorem d_Ways_unitPrice_17 : decode b_Ways_unitPrice 17 = .ok (.if_icmp .ge 111, 3) := by decide +kernel
theorem d_Ways_unitPrice_20 : decode b_Ways_unitPrice 20 = .ok (.iload 9, 2) := by decide +kernel
theorem d_Ways_unitPrice_22 : decode b_Ways_unitPrice 22 = .ok (.iload 6, 2) := by decide +kernel
theorem d_Ways_unitPrice_24 : decode b_Ways_unitPrice 24 = .ok (.if_icmp .eq 98, 3) := by decide +kernel
theorem d_Ways_unitPrice_27 : decode b_Ways_unitPrice 27 = .ok (.aload_n 0, 1) := by decide +kernel
theorem d_Ways_unitPrice_28 : decode b_Ways_unitPrice 28 = .ok (.getfield 21, 3) := by decide +kernel
theorem d_Ways_unitPrice_31 : decode b_Ways_unitPrice 31 = .ok (.iload 9, 2) := by decide +kernel
theorem d_Ways_unitPrice_33 : decode b_Ways_unitPrice 33 = .ok (.iaload, 1) := by decide +kernel
theorem d_Ways_unitPrice_34 : decode b_Ways_unitPrice 34 = .ok (.iload 5, 2) := by decide +kernel
theorem d_Ways_unitPrice_36 : decode b_Ways_unitPrice 36 = .ok (.ishr, 1) := by decide +kernel
theorem d_Ways_unitPrice_37 : decode b_Ways_unitPrice 37 = .ok (.iconst 1, 1) := by decide +kernel
theorem d_Ways_unitPrice_38 : decode b_Ways_unitPrice 38 = .ok (.iand, 1) := by decide +kernel
theorem d_Ways_unitPrice_39 : decode b_Ways_unitPrice 39 = .ok (.iconst 1, 1) := by decide +kernel
theorem d_Ways_unitPrice_40 : decode b_Ways_unitPrice 40 = .ok (.if_icmp .ne 6, 3) := by decide +kernel
theorem d_Ways_unitPrice_43 : decode b_Ways_unitPrice 43 = .ok (.goto 79, 3) := by decide +kernel
theorem d_Ways_unitPrice_46 : decode b_Ways_unitPrice 46 = .ok (.lload_n 1, 1) := by decide +kernel
theorem d_Ways_unitPrice_47 : decode b_Ways_unitPrice 47 = .ok (.aload_n 0, 1) := by decide +kernel
theorem d_Ways_unitPrice_48 : decode b_Ways_unitPrice 48 = .ok (.getfield 9, 3) := by decide +kernel
theorem d_Ways_unitPrice_51 : decode b_Ways_unitPrice 51 = .ok (.iload 9, 2) := by decide +kernel
theorem d_Ways_unitPrice_53 : decode b_Ways_unitPrice 53 = .ok (.laload, 1) := by decide +kernel
theorem d_Ways_unitPrice_54 : decode b_Ways_unitPrice 54 = .ok (.lsub, 1) := by decide +kernel
theorem d_Ways_unitPrice_55 : decode b_Ways_unitPrice 55 = .ok (.invokestatic 29, 3) := by decide +kernel
theorem d_Ways_unitPrice_58 : decode b_Ways_unitPrice 58 = .ok (.aload_n 0, 1) := by decide +kernel
theorem d_Ways_unitPrice_59 : decode b_Ways_unitPrice 59 = .ok (.getfield 15, 3) := by decide +kernel
theorem d_Ways_unitPrice_62 : decode b_Ways_unitPrice 62 = .ok (.iload 9, 2) := by decide +kernel
theorem d_Ways_unitPrice_64 : decode b_Ways_unitPrice 64 = .ok (.laload, 1) := by decide +kernel
theorem d_Ways_unitPrice_65 : decode b_Ways_unitPrice 65 = .ok (.lload_n 3, 1) := by decide +kernel
theorem d_Ways_unitPrice_66 : decode b_Ways_unitPrice 66 = .ok (.lsub, 1) := by decide +kernel
theorem d_Ways_unitPrice_67 : decode b_Ways_unitPrice 67 = .ok (.invokestatic 29, 3) := by decide +kernel
theorem d_Ways_unitPrice_70 : decode b_Ways_unitPrice 70 = .ok (.ladd, 1) := by decide +kernel
theorem d_Ways_unitPrice_71 : decode b_Ways_unitPrice 71 = .ok (.lstore 10, 2) := by decide +kernel
theorem d_Ways_unitPrice_73 : decode b_Ways_unitPrice 73 = .ok (.lload_n 1, 1) := by decide +kernel
theorem d_Ways_unitPrice_74 : decode b_Ways_unitPrice 74 = .ok (.aload_n 0, 1) := by decide +kernel
theorem d_Ways_unitPrice_75 : decode b_Ways_unitPrice 75 = .ok (.getfield 15, 3) := by decide +kernel
theorem d_Ways_unitPrice_78 : decode b_Ways_unitPrice 78 = .ok (.iload 9, 2) := by decide +kernel
theorem d_Ways_unitPrice_80 : decode b_Ways_unitPrice 80 = .ok (.laload, 1) := by decide +kernel
theorem d_Ways_unitPrice_81 : decode b_Ways_unitPrice 81 = .ok (.lsub, 1) := by decide +kernel
theorem d_Ways_unitPrice_82 : decode b_Ways_unitPrice 82 = .ok (.invokestatic 29, 3) := by decide +kernel
theorem d_Ways_unitPrice_85 : decode b_Ways_unitPrice 85 = .ok (.aload_n 0, 1) := by decide +kernel
theorem d_Ways_unitPrice_86 : decode b_Ways_unitPrice 86 = .ok (.getfield 9, 3) := by decide +kernel
theorem d_Ways_unitPrice_89 : decode b_Ways_unitPrice 89 = .ok (.iload 9, 2) := by decide +kernel
theorem d_Ways_unitPrice_91 : decode b_Ways_unitPrice 91 = .ok (.laload, 1) := by decide +kernel
theorem d_Ways_unitPrice_92 : decode b_Ways_unitPrice 92 = .ok (.lload_n 3, 1) := by decide +kernel
theorem d_Ways_unitPrice_93 : decode b_Ways_unitPrice 93 = .ok (.lsub, 1) := by decide +kernel
theorem d_Ways_unitPrice_94 : decode b_Ways_unitPrice 94 = .ok (.invokestatic 29, 3) := by decide +kernel
theorem d_Ways_unitPrice_97 : decode b_Ways_unitPrice 97 = .ok (.ladd, 1) := by decide +kernel
theorem d_Ways_unitPrice_98 : decode b_Ways_unitPrice 98 = .ok (.lstore 12, 2) := by decide +kernel
theorem d_Ways_unitPrice_100 : decode b_Ways_unitPrice 100 = .ok (.lload 7, 2) := by decide +kernel
theorem d_Ways_unitPrice_102 : decode b_Ways_unitPrice 102 = .ok (.aload_n 0, 1) := by decide +kernel
theorem d_Ways_unitPrice_103 : decode b_Ways_unitPrice 103 = .ok (.getfield 18, 3) := by decide +kernel
theorem d_Ways_unitPrice_106 : decode b_Ways_unitPrice 106 = .ok (.iload 9, 2) := by decide +kernel
theorem d_Ways_unitPrice_108 : decode b_Ways_unitPrice 108 = .ok (.laload, 1) := by decide +kernel
theorem d_Ways_unitPrice_109 : decode b_Ways_unitPrice 109 = .ok (.lload 10, 2) := by decide +kernel
theorem d_Ways_unitPrice_111 : decode b_Ways_unitPrice 111 = .ok (.lload 12, 2) := by decide +kernel
theorem d_Ways_unitPrice_113 : decode b_Ways_unitPrice 113 = .ok (.invokestatic 35, 3) := by decide +kernel
theorem d_Ways_unitPrice_116 : decode b_Ways_unitPrice 116 = .ok (.ladd, 1) := by decide +kernel
theorem d_Ways_unitPrice_117 : decode b_Ways_unitPrice 117 = .ok (.invokestatic 35, 3) := by decide +kernel
theorem d_Ways_unitPrice_120 : decode b_Ways_unitPrice 120 = .ok (.lstore 7, 2) := by decide +kernel
theorem d_Ways_unitPrice_122 : decode b_Ways_unitPrice 122 = .ok (.iinc 9 1, 3) := by decide +kernel
theorem d_Ways_unitPrice_125 : decode b_Ways_unitPrice 125 = .ok (.goto (-114), 3) := by decide +kernel
theorem d_Ways_unitPrice_128 : decode b_Ways_unitPrice 128 = .ok (.lload 7, 2) := by decide +kernel
theorem d_Ways_unitPrice_130 : decode b_Ways_unitPrice 130 = .ok (.lreturn, 1) := by decide +kernel
abbrev b_Ways_add : ByteArray := prog_5_method_2_code
def y_Ways_add : MethodName := ⟨R_Ways, "add", "(JJJ)I"⟩
def u_Ways_add : List Cond := Cond.code y_Ways_add b_Ways_add 7 (some .int) :: wG
theorem d_Ways_add_0 : decode b_Ways_add 0 = .ok (.aload_n 0, 1) := by decide +kernel
theorem d_Ways_add_1 : decode b_Ways_add 1 = .ok (.getfield 9, 3) := by decide +kernel
theorem d_Ways_add_4 : decode b_Ways_add 4 = .ok (.aload_n 0, 1) := by decide +kernel
theorem d_Ways_add_5 : decode b_Ways_add 5 = .ok (.getfield 25, 3) := by decide +kernel
theorem d_Ways_add_8 : decode b_Ways_add 8 = .ok (.lload_n 1, 1) := by decide +kernel
theorem d_Ways_add_9 : decode b_Ways_add 9 = .ok (.lastore, 1) := by decide +kernel
theorem d_Ways_add_10 : decode b_Ways_add 10 = .ok (.aload_n 0, 1) := by decide +kernel
theorem d_Ways_add_11 : decode b_Ways_add 11 = .ok (.getfield 15, 3) := by decide +kernel
theorem d_Ways_add_14 : decode b_Ways_add 14 = .ok (.aload_n 0, 1) := by decide +kernel
theorem d_Ways_add_15 : decode b_Ways_add 15 = .ok (.getfield 25, 3) := by decide +kernel
theorem d_Ways_add_18 : decode b_Ways_add 18 = .ok (.lload_n 3, 1) := by decide +kernel
theorem d_Ways_add_19 : decode b_Ways_add 19 = .ok (.lastore, 1) := by decide +kernel
theorem d_Ways_add_20 : decode b_Ways_add 20 = .ok (.aload_n 0, 1) := by decide +kernel
theorem d_Ways_add_21 : decode b_Ways_add 21 = .ok (.getfield 18, 3) := by decide +kernel
theorem d_Ways_add_24 : decode b_Ways_add 24 = .ok (.aload_n 0, 1) := by decide +kernel
theorem d_Ways_add_25 : decode b_Ways_add 25 = .ok (.getfield 25, 3) := by decide +kernel
theorem d_Ways_add_28 : decode b_Ways_add 28 = .ok (.lload 5, 2) := by decide +kernel
theorem d_Ways_add_30 : decode b_Ways_add 30 = .ok (.lastore, 1) := by decide +kernel
theorem d_Ways_add_31 : decode b_Ways_add 31 = .ok (.aload_n 0, 1) := by decide +kernel
theorem d_Ways_add_32 : decode b_Ways_add 32 = .ok (.dup, 1) := by decide +kernel
theorem d_Ways_add_33 : decode b_Ways_add 33 = .ok (.getfield 25, 3) := by decide +kernel
theorem d_Ways_add_36 : decode b_Ways_add 36 = .ok (.iconst 1, 1) := by decide +kernel
theorem d_Ways_add_37 : decode b_Ways_add 37 = .ok (.iadd, 1) := by decide +kernel
theorem d_Ways_add_38 : decode b_Ways_add 38 = .ok (.putfield 25, 3) := by decide +kernel
theorem d_Ways_add_41 : decode b_Ways_add 41 = .ok (.aload_n 0, 1) := by decide +kernel
theorem d_Ways_add_42 : decode b_Ways_add 42 = .ok (.getfield 25, 3) := by decide +kernel
theorem d_Ways_add_45 : decode b_Ways_add 45 = .ok (.iconst 1, 1) := by decide +kernel
theorem d_Ways_add_46 : decode b_Ways_add 46 = .ok (.isub, 1) := by decide +kernel
theorem d_Ways_add_47 : decode b_Ways_add 47 = .ok (.ireturn, 1) := by decide +kernel
abbrev b_Ways_shut : ByteArray := prog_5_method_3_code
def y_Ways_shut : MethodName := ⟨R_Ways, "shut", "(III)V"⟩
def u_Ways_shut : List Cond := Cond.code y_Ways_shut b_Ways_shut 5 none :: wG
theorem d_Ways_shut_0 : decode b_Ways_shut 0 = .ok (.iload_n 2, 1) := by decide +kernel
theorem d_Ways_shut_1 : decode b_Ways_shut 1 = .ok (.istore 4, 2) := by decide +kernel
theorem d_Ways_shut_3 : decode b_Ways_shut 3 = .ok (.iload 4, 2) := by decide +kernel
theorem d_Ways_shut_5 : decode b_Ways_shut 5 = .ok (.iload_n 3, 1) := by decide +kernel
theorem d_Ways_shut_6 : decode b_Ways_shut 6 = .ok (.if_icmp .gt 22, 3) := by decide +kernel
theorem d_Ways_shut_9 : decode b_Ways_shut 9 = .ok (.aload_n 0, 1) := by decide +kernel
theorem d_Ways_shut_10 : decode b_Ways_shut 10 = .ok (.getfield 21, 3) := by decide +kernel
theorem d_Ways_shut_13 : decode b_Ways_shut 13 = .ok (.iload_n 1, 1) := by decide +kernel
theorem d_Ways_shut_14 : decode b_Ways_shut 14 = .ok (.dup2, 1) := by decide +kernel
theorem d_Ways_shut_15 : decode b_Ways_shut 15 = .ok (.iaload, 1) := by decide +kernel
theorem d_Ways_shut_16 : decode b_Ways_shut 16 = .ok (.iconst 1, 1) := by decide +kernel
theorem d_Ways_shut_17 : decode b_Ways_shut 17 = .ok (.iload 4, 2) := by decide +kernel
theorem d_Ways_shut_19 : decode b_Ways_shut 19 = .ok (.ishl, 1) := by decide +kernel
theorem d_Ways_shut_20 : decode b_Ways_shut 20 = .ok (.ior, 1) := by decide +kernel
theorem d_Ways_shut_21 : decode b_Ways_shut 21 = .ok (.iastore, 1) := by decide +kernel
theorem d_Ways_shut_22 : decode b_Ways_shut 22 = .ok (.iinc 4 1, 3) := by decide +kernel
theorem d_Ways_shut_25 : decode b_Ways_shut 25 = .ok (.goto (-22), 3) := by decide +kernel
theorem d_Ways_shut_28 : decode b_Ways_shut 28 = .ok (.return_, 1) := by decide +kernel
def w_Y (cI cJ cZ : ClassId) (a : Nat → Nat) (V0 : Nat) (L0 : Nat → Int64) (L1 : Nat → Int64) (L2 : Nat → Int64) (I0 : Nat → Int32) : va_W :=
  [(a 0, .inr (3, [.int (nI V0), .ref (a 1), .ref (a 2), .ref (a 3), .ref (a 4)])),
   (a 1, .inl (cJ, 6, .inr (.inl L0))),
   (a 2, .inl (cJ, 6, .inr (.inl L1))),
   (a 3, .inl (cJ, 6, .inr (.inl L2))),
   (a 4, .inl (cI, 6, .inl I0))]
def f_Ways_unitPrice_h11B (VY0 : Nat) (x6 : Int32) (IY0 : Nat → Int32) (x5 : Nat) (LY2 : Nat → Int64) (x1 : Int64) (LY0 : Nat → Int64) (LY1 : Nat → Int64) (x3 : Int64) (k_11 : (Int64) → (Nat) → Int64) (rec_11 : (Int64) → (Nat) → Int64) (x7_11 : Int64) (x9_11 : Nat) : Int64 :=
  if VY0 ≤ x9_11 then (k_11 x7_11 x9_11) else (if (nI x9_11) = x6 then (rec_11 x7_11 (x9_11 + 1)) else (if (((IY0 x9_11) >>> ((nI x5) &&& 31)) &&& (nI 1)) = (nI 1) then (rec_11 x7_11 (x9_11 + 1)) else (rec_11 (hh_min x7_11 ((LY2 x9_11) + (hh_min ((hh_abs (x1 - (LY0 x9_11))) + (hh_abs ((LY1 x9_11) - x3))) ((hh_abs (x1 - (LY1 x9_11))) + (hh_abs ((LY0 x9_11) - x3)))))) (x9_11 + 1))))
def f_Ways_unitPrice_h11 (VY0 : Nat) (x6 : Int32) (IY0 : Nat → Int32) (x5 : Nat) (LY2 : Nat → Int64) (x1 : Int64) (LY0 : Nat → Int64) (LY1 : Nat → Int64) (x3 : Int64) (k_11 : (Int64) → (Nat) → Int64) : Nat → (Int64) → (Nat) → Int64
  | 0, x7_11, x9_11 => k_11 x7_11 x9_11
  | n + 1, x7_11, x9_11 => f_Ways_unitPrice_h11B VY0 x6 IY0 x5 LY2 x1 LY0 LY1 x3 k_11 (fun x7_11 x9_11 => f_Ways_unitPrice_h11 VY0 x6 IY0 x5 LY2 x1 LY0 LY1 x3 k_11 n x7_11 x9_11) x7_11 x9_11
def f_Ways_unitPrice_x11  (x7_11 : Int64) (x9_11 : Nat) : Int64 :=
  (x7_11)
def f_Ways_unitPrice (VY0 : Nat) (LY0 : Nat → Int64) (LY1 : Nat → Int64) (LY2 : Nat → Int64) (IY0 : Nat → Int32) (x1 : Int64) (x3 : Int64) (x5 : Nat) (x6 : Int32) : Int64 :=
  f_Ways_unitPrice_h11 VY0 x6 IY0 x5 LY2 x1 LY0 LY1 x3 f_Ways_unitPrice_x11 7 (hh_abs (x1 - x3)) 0
set_option maxHeartbeats 4000000 in
set_option maxRecDepth 100000 in
theorem c_Ways_unitPrice (l : Launch) (dC : Nat → ClassId) (dI : Nat → Nat → Nat) (cI cJ cZ : ClassId) (sz : Nat) (aY : Nat → Nat) (VY0 : Nat) (LY0 : Nat → Int64) (LY1 : Nat → Int64) (LY2 : Nat → Int64) (IY0 : Nat → Int32) (x1 : Int64) (x3 : Int64) (x5 : Nat) (x6 : Int32) (hy6 : VY0 ≤ 6) : hh_Cl l y_Ways_unitPrice u_Ways_unitPrice ({ frames := 1, cells := 0, slots := 0, locals := 23 }) (dC, dI) vwCl [(cI, .int), (cJ, .long), (cZ, .boolean)] (w_Y cI cJ cZ aY VY0 LY0 LY1 LY2 IY0) sz [.ref (aY 0), .long x1, .long x3, .int (nI x5), .int x6] (f_Ways_unitPrice VY0 LY0 LY1 LY2 IY0 x1 x3 x5 x6) (w_Y cI cJ cZ aY VY0 LY0 LY1 LY2 IY0) 0 0 := by
  unfold hh_Cl
  refine Met.ofW (cc := b_Ways_unitPrice) (maxL := 14) (ret := (some .long)) (by decide) rfl ?_
  intro p e s m args below meth c s₁ B hml hv
  obtain ⟨rfl, hsz, hP, hK, hD0⟩ := hv
  have hx := B.exec
  have hb := B.bytes
  have hr := B.returns
  have hts := atoms_spec (ws := u_Ways_unitPrice) B.pre
  have hG : ∀ w ∈ wG, w.before ([.ref (aY 0), .long x1, .long x3, .int (nI x5), .int x6]).toArray s = true := fun w h => hts w (List.mem_cons_of_mem _ h)
  have hown : s.vm.findClass R_Ways = some m.cls := findClass_of_methodNamed B.named
  have hlocks := B.notSynchronized
  subst hsz
  have hD := hD0.self (sz := s.heap.size)
  generalize hAe : va_A (w_Y cI cJ cZ aY VY0 LY0 LY1 LY2 IY0) s.heap.size = A at hD ⊢
  have hA : ∀ q : Nat, s.heap.size ≤ q → A q := fun q h => by rw [← hAe]; exact Or.inr h
  have hS : va_S A s.heap s.heap [] := va_S.rf
  have hl := lv_entry ([.ref (aY 0), .long x1, .long x3, .int (nI x5), .int x6]) (n := 14) (Nat.le_of_ble_eq_true rfl)
  rw [lg_entry_eq]
  generalize (lg_sl ([.ref (aY 0), .long x1, .long x3, .int (nI x5), .int x6]) ++ List.replicate (14 - (lg_sl ([.ref (aY 0), .long x1, .long x3, .int (nI x5), .int x6])).length) Slot.unset).toArray = ls at hl ⊢
  have hl : lv_has ls 14 [(0, .ref (aY 0)), (1, .long x1), (3, .long x3), (5, .int (nI x5)), (6, .int x6)] := hl
  generalize hR : f_Ways_unitPrice VY0 LY0 LY1 LY2 IY0 x1 x3 x5 x6 = r0
  obtain ⟨H, locs, hHe, hle⟩ : ∃ (H : Heap) (locs : List Loc), s.heap = H ∧ [] = locs := ⟨_, _, rfl, rfl⟩
  have hP : va_P (dC, dI) vwCl (w_Y cI cJ cZ aY VY0 LY0 LY1 LY2 IY0) H := by rw [← hHe]; exact hP
  have hS : va_S A s.heap H locs := by rw [← hHe, ← hle]; exact hS
  refine hw_start hHe hle ?_
  unfold f_Ways_unitPrice at hR
  refine lv_lload_n hx hb d_Ways_unitPrice_0 rfl (lv_at hl 1 rfl) ?_
  refine lv_lload_n hx hb d_Ways_unitPrice_1 rfl (lv_at hl 2 rfl) ?_
  refine lv_lsub hx hb d_Ways_unitPrice_2 ?_
  refine hw_mabs hx hb (hml.trans hl.1.symm) hown (hG _ m_403) (hG _ m_404) (hG _ m_12) (hG _ m_405) (Nat.le_of_ble_eq_true rfl) (Nat.le_of_ble_eq_true rfl) (Nat.zero_le _) (Nat.zero_le _) d_Ways_unitPrice_3 ?_
  refine lv_lstore (lv' := [(7, .long (hh_abs (x1 - x3))), (0, .ref (aY 0)), (1, .long x1), (3, .long x3), (5, .int (nI x5)), (6, .int x6)]) hx hb d_Ways_unitPrice_6 hl (by decide) rfl (fun ls hl => ?_)
  refine lv_iconst (v := nI 0) hx hb d_Ways_unitPrice_8 (by decide) ?_
  refine lv_istore (lv' := [(9, .int (nI 0)), (7, .long (hh_abs (x1 - x3))), (0, .ref (aY 0)), (1, .long x1), (3, .long x3), (5, .int (nI x5)), (6, .int x6)]) hx hb d_Ways_unitPrice_9 hl (by decide) rfl (fun ls hl => ?_)
  obtain ⟨k_11, hk_11, hR⟩ : ∃ k, f_Ways_unitPrice_x11 = k ∧ f_Ways_unitPrice_h11 VY0 x6 IY0 x5 LY2 x1 LY0 LY1 x3 k 7 (hh_abs (x1 - x3)) 0 = r0 := ⟨_, rfl, hR⟩
  have X_11 : ∀ (x7_11 : Int64) (x9_11 : Nat) (hi : x9_11 ≤ (VY0)) (H : Heap) (locs : List Loc) (hP : va_P (dC, dI) vwCl (w_Y cI cJ cZ aY VY0 LY0 LY1 LY2 IY0) H) (hD : va_D A (w_Y cI cJ cZ aY VY0 LY0 LY1 LY2 IY0)) (hS : va_S A s.heap H locs) (ls : Array Slot) (hl : lv_has ls 14 [(0, .ref (aY 0)), (1, .long x1), (3, .long x3), (5, .int (nI x5)), (6, .int x6), (7, .long x7_11), (9, .int (nI x9_11))]) (hR : k_11 x7_11 x9_11 = r0), W p l e (headSpec u_Ways_unitPrice ({ frames := 1, cells := 0, slots := 0, locals := 23 })).room s m ([.ref (aY 0), .long x1, .long x3, .int (nI x5), .int x6]).toArray below meth c H locs 0 0 (hh_Zl below (dC, dI) vwCl [(cI, .int), (cJ, .long), (cZ, .boolean)] A r0 (w_Y cI cJ cZ aY VY0 LY0 LY1 LY2 IY0) ([.ref (aY 0), .long x1, .long x3, .int (nI x5), .int x6]).toArray s) (F0 m 128 ls []) := by
    intro x7_11 x9_11 hi H locs hP hD hS ls hl hR
    rw [← hk_11] at hR
    unfold f_Ways_unitPrice_x11 at hR
    refine lv_lload hx hb d_Ways_unitPrice_128 (lv_at hl 5 rfl) ?_
    subst hR
    exact W.lret (v := x7_11) hx hb hr (fun t ht hW => ⟨⟨_, (), rfl, rfl, by rw [ht]; exact hP, va_K.moved hW.alike hK, hD⟩, hS.F ht⟩) hS.2.2 d_Ways_unitPrice_130
  have L_11 : ∀ (n : Nat) (x7_11 : Int64) (x9_11 : Nat) (hi : x9_11 ≤ (VY0)) (hfu : (VY0) - x9_11 < n) (H : Heap) (locs : List Loc) (hP : va_P (dC, dI) vwCl (w_Y cI cJ cZ aY VY0 LY0 LY1 LY2 IY0) H) (hD : va_D A (w_Y cI cJ cZ aY VY0 LY0 LY1 LY2 IY0)) (hS : va_S A s.heap H locs) (ls : Array Slot) (hl : lv_has ls 14 [(0, .ref (aY 0)), (1, .long x1), (3, .long x3), (5, .int (nI x5)), (6, .int x6), (7, .long x7_11), (9, .int (nI x9_11))]) (hR : f_Ways_unitPrice_h11 VY0 x6 IY0 x5 LY2 x1 LY0 LY1 x3 k_11 n x7_11 x9_11 = r0), W p l e (headSpec u_Ways_unitPrice ({ frames := 1, cells := 0, slots := 0, locals := 23 })).room s m ([.ref (aY 0), .long x1, .long x3, .int (nI x5), .int x6]).toArray below meth c H locs 0 0 (hh_Zl below (dC, dI) vwCl [(cI, .int), (cJ, .long), (cZ, .boolean)] A r0 (w_Y cI cJ cZ aY VY0 LY0 LY1 LY2 IY0) ([.ref (aY 0), .long x1, .long x3, .int (nI x5), .int x6]).toArray s) (F0 m 11 ls []) := by
    intro n
    induction n with
    | zero =>
      intro x7_11 x9_11 hi hfu H locs hP hD hS ls hl hR
      exact absurd hfu (Nat.not_lt_zero _)
    | succ n ih_11 =>
      intro x7_11 x9_11 hi hfu H locs hP hD hS ls hl hR
      rw [f_Ways_unitPrice_h11] at hR
      obtain ⟨rec_11, hrec_11, hR⟩ : ∃ r, r = _ ∧ f_Ways_unitPrice_h11B VY0 x6 IY0 x5 LY2 x1 LY0 LY1 x3 k_11 r x7_11 x9_11 = r0 := ⟨_, rfl, hR⟩
      unfold f_Ways_unitPrice_h11B at hR
      refine lv_iload hx hb d_Ways_unitPrice_11 (lv_at hl 6 rfl) ?_
      refine lv_aload_n hx hb d_Ways_unitPrice_13 rfl (lv_at hl 0 rfl) ?_
      refine va_get (D := (dC, dI)) (ci := 3) (v := .int (nI VY0)) (C := R_Ways) (T := T_Ways) (N := 5) hx hb hG in_Ways hown hK hP 0 rfl rfl 0 (by decide) (hG _ m_33) (fun _ h9 => h9) rfl d_Ways_unitPrice_14 ?_
      refine hw_icmp_ge (tgt := 128) hx hb d_Ways_unitPrice_17 (by decide) (by omega) (by omega) (fun c17 => ?_) (fun c17 => ?_)
      · replace hR := (if_pos c17).symm.trans hR
        exact X_11 x7_11 x9_11 (by first | assumption | omega | exact hw_upb (by assumption) (by omega)) H locs hP hD hS ls (lv_sub hl [0, 1, 2, 3, 4, 5, 6] rfl) hR
      · replace hR := (if_neg c17).symm.trans hR
        refine lv_iload hx hb d_Ways_unitPrice_20 (lv_at hl 6 rfl) ?_
        refine lv_iload hx hb d_Ways_unitPrice_22 (lv_at hl 4 rfl) ?_
        refine lv_icmp_eq (tgt := 122) hx hb d_Ways_unitPrice_24 (by decide) (fun c24 => ?_) (fun c24 => ?_)
        · replace hR := (if_pos c24).symm.trans hR
          refine lv_iinc (v := nI (x9_11 + 1)) (lv' := [(9, .int (nI (x9_11 + 1))), (0, .ref (aY 0)), (1, .long x1), (3, .long x3), (5, .int (nI x5)), (6, .int x6), (7, .long x7_11)]) hx hb d_Ways_unitPrice_122 hl (k := 6) rfl (hw_inc _ 1) (by decide) rfl (fun ls hl => ?_)
          refine lv_goto (tgt := 11) hx hb d_Ways_unitPrice_125 (by decide) ?_
          rw [hrec_11] at hR
          exact ih_11 x7_11 (x9_11 + 1) (by first | assumption | omega | exact hw_upb (by assumption) (by omega)) (by omega) H locs hP hD hS ls (lv_sub hl [1, 2, 3, 4, 5, 6, 0] rfl) hR
        · replace hR := (if_neg c24).symm.trans hR
          refine lv_aload_n hx hb d_Ways_unitPrice_27 rfl (lv_at hl 0 rfl) ?_
          refine va_get (D := (dC, dI)) (ci := 3) (v := .ref (aY 4)) (C := R_Ways) (T := T_Ways) (N := 5) hx hb hG in_Ways hown hK hP 0 rfl rfl 4 (by decide) (hG _ m_38) (fun _ h9 => h9) rfl d_Ways_unitPrice_28 ?_
          refine lv_iload hx hb d_Ways_unitPrice_31 (lv_at hl 6 rfl) ?_
          refine hw_iald (f := IY0) hx hb hK hP 4 0 rfl rfl (by decide) (by omega) d_Ways_unitPrice_33 ?_
          refine lv_iload hx hb d_Ways_unitPrice_34 (lv_at hl 3 rfl) ?_
          refine lv_ishr hx hb d_Ways_unitPrice_36 ?_
          refine lv_iconst (v := nI 1) hx hb d_Ways_unitPrice_37 (by decide) ?_
          refine lv_iand hx hb d_Ways_unitPrice_38 ?_
          refine lv_iconst (v := nI 1) hx hb d_Ways_unitPrice_39 (by decide) ?_
          refine lv_icmp_ne (tgt := 46) hx hb d_Ways_unitPrice_40 (by decide) (fun c40 => ?_) (fun c40 => ?_)
          · replace hR := (if_neg c40).symm.trans hR
            refine lv_lload_n hx hb d_Ways_unitPrice_46 rfl (lv_at hl 1 rfl) ?_
            refine lv_aload_n hx hb d_Ways_unitPrice_47 rfl (lv_at hl 0 rfl) ?_
            refine va_get (D := (dC, dI)) (ci := 3) (v := .ref (aY 1)) (C := R_Ways) (T := T_Ways) (N := 5) hx hb hG in_Ways hown hK hP 0 rfl rfl 1 (by decide) (hG _ m_35) (fun _ h9 => h9) rfl d_Ways_unitPrice_48 ?_
            refine lv_iload hx hb d_Ways_unitPrice_51 (lv_at hl 6 rfl) ?_
            refine hw_lald (f := LY0) hx hb hK hP 1 1 rfl rfl (by decide) (by omega) d_Ways_unitPrice_53 ?_
            refine lv_lsub hx hb d_Ways_unitPrice_54 ?_
            refine hw_mabs hx hb (hml.trans hl.1.symm) hown (hG _ m_403) (hG _ m_404) (hG _ m_12) (hG _ m_405) (Nat.le_of_ble_eq_true rfl) (Nat.le_of_ble_eq_true rfl) (Nat.zero_le _) (Nat.zero_le _) d_Ways_unitPrice_55 ?_
            refine lv_aload_n hx hb d_Ways_unitPrice_58 rfl (lv_at hl 0 rfl) ?_
            refine va_get (D := (dC, dI)) (ci := 3) (v := .ref (aY 2)) (C := R_Ways) (T := T_Ways) (N := 5) hx hb hG in_Ways hown hK hP 0 rfl rfl 2 (by decide) (hG _ m_36) (fun _ h9 => h9) rfl d_Ways_unitPrice_59 ?_
            refine lv_iload hx hb d_Ways_unitPrice_62 (lv_at hl 6 rfl) ?_
            refine hw_lald (f := LY1) hx hb hK hP 2 1 rfl rfl (by decide) (by omega) d_Ways_unitPrice_64 ?_
            refine lv_lload_n hx hb d_Ways_unitPrice_65 rfl (lv_at hl 2 rfl) ?_
            refine lv_lsub hx hb d_Ways_unitPrice_66 ?_
            refine hw_mabs hx hb (hml.trans hl.1.symm) hown (hG _ m_403) (hG _ m_404) (hG _ m_12) (hG _ m_405) (Nat.le_of_ble_eq_true rfl) (Nat.le_of_ble_eq_true rfl) (Nat.zero_le _) (Nat.zero_le _) d_Ways_unitPrice_67 ?_
            refine lv_ladd hx hb d_Ways_unitPrice_70 ?_
            refine lv_lstore (lv' := [(10, .long ((hh_abs (x1 - (LY0 x9_11))) + (hh_abs ((LY1 x9_11) - x3)))), (0, .ref (aY 0)), (1, .long x1), (3, .long x3), (5, .int (nI x5)), (6, .int x6), (7, .long x7_11), (9, .int (nI x9_11))]) hx hb d_Ways_unitPrice_71 hl (by decide) rfl (fun ls hl => ?_)
            refine lv_lload_n hx hb d_Ways_unitPrice_73 rfl (lv_at hl 2 rfl) ?_
            refine lv_aload_n hx hb d_Ways_unitPrice_74 rfl (lv_at hl 1 rfl) ?_
            refine va_get (D := (dC, dI)) (ci := 3) (v := .ref (aY 2)) (C := R_Ways) (T := T_Ways) (N := 5) hx hb hG in_Ways hown hK hP 0 rfl rfl 2 (by decide) (hG _ m_36) (fun _ h9 => h9) rfl d_Ways_unitPrice_75 ?_
            refine lv_iload hx hb d_Ways_unitPrice_78 (lv_at hl 7 rfl) ?_
            refine hw_lald (f := LY1) hx hb hK hP 2 1 rfl rfl (by decide) (by omega) d_Ways_unitPrice_80 ?_
            refine lv_lsub hx hb d_Ways_unitPrice_81 ?_
            refine hw_mabs hx hb (hml.trans hl.1.symm) hown (hG _ m_403) (hG _ m_404) (hG _ m_12) (hG _ m_405) (Nat.le_of_ble_eq_true rfl) (Nat.le_of_ble_eq_true rfl) (Nat.zero_le _) (Nat.zero_le _) d_Ways_unitPrice_82 ?_
            refine lv_aload_n hx hb d_Ways_unitPrice_85 rfl (lv_at hl 1 rfl) ?_
            refine va_get (D := (dC, dI)) (ci := 3) (v := .ref (aY 1)) (C := R_Ways) (T := T_Ways) (N := 5) hx hb hG in_Ways hown hK hP 0 rfl rfl 1 (by decide) (hG _ m_35) (fun _ h9 => h9) rfl d_Ways_unitPrice_86 ?_
            refine lv_iload hx hb d_Ways_unitPrice_89 (lv_at hl 7 rfl) ?_
            refine hw_lald (f := LY0) hx hb hK hP 1 1 rfl rfl (by decide) (by omega) d_Ways_unitPrice_91 ?_
            refine lv_lload_n hx hb d_Ways_unitPrice_92 rfl (lv_at hl 3 rfl) ?_
            refine lv_lsub hx hb d_Ways_unitPrice_93 ?_
            refine hw_mabs hx hb (hml.trans hl.1.symm) hown (hG _ m_403) (hG _ m_404) (hG _ m_12) (hG _ m_405) (Nat.le_of_ble_eq_true rfl) (Nat.le_of_ble_eq_true rfl) (Nat.zero_le _) (Nat.zero_le _) d_Ways_unitPrice_94 ?_
            refine lv_ladd hx hb d_Ways_unitPrice_97 ?_
            refine lv_lstore (lv' := [(12, .long ((hh_abs (x1 - (LY1 x9_11))) + (hh_abs ((LY0 x9_11) - x3)))), (10, .long ((hh_abs (x1 - (LY0 x9_11))) + (hh_abs ((LY1 x9_11) - x3)))), (0, .ref (aY 0)), (1, .long x1), (3, .long x3), (5, .int (nI x5)), (6, .int x6), (7, .long x7_11), (9, .int (nI x9_11))]) hx hb d_Ways_unitPrice_98 hl (by decide) rfl (fun ls hl => ?_)
            refine lv_lload hx hb d_Ways_unitPrice_100 (lv_at hl 7 rfl) ?_
            refine lv_aload_n hx hb d_Ways_unitPrice_102 rfl (lv_at hl 2 rfl) ?_
            refine va_get (D := (dC, dI)) (ci := 3) (v := .ref (aY 3)) (C := R_Ways) (T := T_Ways) (N := 5) hx hb hG in_Ways hown hK hP 0 rfl rfl 3 (by decide) (hG _ m_37) (fun _ h9 => h9) rfl d_Ways_unitPrice_103 ?_
            refine lv_iload hx hb d_Ways_unitPrice_106 (lv_at hl 8 rfl) ?_
            refine hw_lald (f := LY2) hx hb hK hP 3 1 rfl rfl (by decide) (by omega) d_Ways_unitPrice_108 ?_
            refine lv_lload hx hb d_Ways_unitPrice_109 (lv_at hl 1 rfl) ?_
            refine lv_lload hx hb d_Ways_unitPrice_111 (lv_at hl 0 rfl) ?_
            refine hw_mmin hx hb (hml.trans hl.1.symm) hown (hG _ m_406) (hG _ m_407) (hG _ m_12) (hG _ m_408) (Nat.le_of_ble_eq_true rfl) (Nat.le_of_ble_eq_true rfl) (Nat.zero_le _) (Nat.zero_le _) d_Ways_unitPrice_113 ?_
            refine lv_ladd hx hb d_Ways_unitPrice_116 ?_
            refine hw_mmin hx hb (hml.trans hl.1.symm) hown (hG _ m_406) (hG _ m_407) (hG _ m_12) (hG _ m_408) (Nat.le_of_ble_eq_true rfl) (Nat.le_of_ble_eq_true rfl) (Nat.zero_le _) (Nat.zero_le _) d_Ways_unitPrice_117 ?_
            refine lv_lstore (lv' := [(7, .long (hh_min x7_11 ((LY2 x9_11) + (hh_min ((hh_abs (x1 - (LY0 x9_11))) + (hh_abs ((LY1 x9_11) - x3))) ((hh_abs (x1 - (LY1 x9_11))) + (hh_abs ((LY0 x9_11) - x3))))))), (12, .long ((hh_abs (x1 - (LY1 x9_11))) + (hh_abs ((LY0 x9_11) - x3)))), (10, .long ((hh_abs (x1 - (LY0 x9_11))) + (hh_abs ((LY1 x9_11) - x3)))), (0, .ref (aY 0)), (1, .long x1), (3, .long x3), (5, .int (nI x5)), (6, .int x6), (9, .int (nI x9_11))]) hx hb d_Ways_unitPrice_120 hl (by decide) rfl (fun ls hl => ?_)
            refine lv_iinc (v := nI (x9_11 + 1)) (lv' := [(9, .int (nI (x9_11 + 1))), (7, .long (hh_min x7_11 ((LY2 x9_11) + (hh_min ((hh_abs (x1 - (LY0 x9_11))) + (hh_abs ((LY1 x9_11) - x3))) ((hh_abs (x1 - (LY1 x9_11))) + (hh_abs ((LY0 x9_11) - x3))))))), (12, .long ((hh_abs (x1 - (LY1 x9_11))) + (hh_abs ((LY0 x9_11) - x3)))), (10, .long ((hh_abs (x1 - (LY0 x9_11))) + (hh_abs ((LY1 x9_11) - x3)))), (0, .ref (aY 0)), (1, .long x1), (3, .long x3), (5, .int (nI x5)), (6, .int x6)]) hx hb d_Ways_unitPrice_122 hl (k := 8) rfl (hw_inc _ 1) (by decide) rfl (fun ls hl => ?_)
            refine lv_goto (tgt := 11) hx hb d_Ways_unitPrice_125 (by decide) ?_
            rw [hrec_11] at hR
            exact ih_11 (hh_min x7_11 ((LY2 x9_11) + (hh_min ((hh_abs (x1 - (LY0 x9_11))) + (hh_abs ((LY1 x9_11) - x3))) ((hh_abs (x1 - (LY1 x9_11))) + (hh_abs ((LY0 x9_11) - x3)))))) (x9_11 + 1) (by first | assumption | omega | exact hw_upb (by assumption) (by omega)) (by omega) H locs hP hD hS ls (lv_sub hl [4, 5, 6, 7, 8, 1, 0] rfl) hR
          · replace hR := (if_pos c40).symm.trans hR
            refine lv_goto (tgt := 122) hx hb d_Ways_unitPrice_43 (by decide) ?_
            refine lv_iinc (v := nI (x9_11 + 1)) (lv' := [(9, .int (nI (x9_11 + 1))), (0, .ref (aY 0)), (1, .long x1), (3, .long x3), (5, .int (nI x5)), (6, .int x6), (7, .long x7_11)]) hx hb d_Ways_unitPrice_122 hl (k := 6) rfl (hw_inc _ 1) (by decide) rfl (fun ls hl => ?_)
            refine lv_goto (tgt := 11) hx hb d_Ways_unitPrice_125 (by decide) ?_
            rw [hrec_11] at hR
            exact ih_11 x7_11 (x9_11 + 1) (by first | assumption | omega | exact hw_upb (by assumption) (by omega)) (by omega) H locs hP hD hS ls (lv_sub hl [1, 2, 3, 4, 5, 6, 0] rfl) hR
  exact L_11 7 (hh_abs (x1 - x3)) 0 (by first | assumption | omega | exact hw_upb (by assumption) (by omega)) (by omega) H locs hP hD hS ls (lv_sub hl [2, 3, 4, 5, 6, 1, 0] rfl) hR
def f_Ways_add (VY0 : Nat) (LY0 : Nat → Int64) (LY1 : Nat → Int64) (LY2 : Nat → Int64) (x1 : Int64) (x3 : Int64) (x5 : Int64) : Nat × (Nat) × (Nat → Int64) × (Nat → Int64) × (Nat → Int64) :=
  ((VY0 + 1) - 1, VY0 + 1, vp_updL LY0 VY0 x1, vp_updL LY1 VY0 x3, vp_updL LY2 VY0 x5)
set_option maxHeartbeats 4000000 in
set_option maxRecDepth 100000 in
theorem c_Ways_add (l : Launch) (dC : Nat → ClassId) (dI : Nat → Nat → Nat) (cI cJ cZ : ClassId) (sz : Nat) (aY : Nat → Nat) (VY0 : Nat) (LY0 : Nat → Int64) (LY1 : Nat → Int64) (LY2 : Nat → Int64) (IY0 : Nat → Int32) (x1 : Int64) (x3 : Int64) (x5 : Int64) (hy5 : VY0 < 6) : hh_Ci l y_Ways_add u_Ways_add ({ frames := 0, cells := 0, slots := 0, locals := 0 }) (dC, dI) vwCl [(cI, .int), (cJ, .long), (cZ, .boolean)] (w_Y cI cJ cZ aY VY0 LY0 LY1 LY2 IY0) sz [.ref (aY 0), .long x1, .long x3, .long x5] (nI ((f_Ways_add VY0 LY0 LY1 LY2 x1 x3 x5).1)) (w_Y cI cJ cZ aY ((f_Ways_add VY0 LY0 LY1 LY2 x1 x3 x5).2.1) ((f_Ways_add VY0 LY0 LY1 LY2 x1 x3 x5).2.2.1) ((f_Ways_add VY0 LY0 LY1 LY2 x1 x3 x5).2.2.2.1) ((f_Ways_add VY0 LY0 LY1 LY2 x1 x3 x5).2.2.2.2) IY0) 0 0 := by
  unfold hh_Ci
  refine Met.ofW (cc := b_Ways_add) (maxL := 7) (ret := (some .int)) (by decide) rfl ?_
  intro p e s m args below meth c s₁ B hml hv
  obtain ⟨rfl, hsz, hP, hK, hD0⟩ := hv
  have hx := B.exec
  have hb := B.bytes
  have hr := B.returns
  have hts := atoms_spec (ws := u_Ways_add) B.pre
  have hG : ∀ w ∈ wG, w.before ([.ref (aY 0), .long x1, .long x3, .long x5]).toArray s = true := fun w h => hts w (List.mem_cons_of_mem _ h)
  have hown : s.vm.findClass R_Ways = some m.cls := findClass_of_methodNamed B.named
  have hlocks := B.notSynchronized
  subst hsz
  have hD := hD0.self (sz := s.heap.size)
  generalize hAe : va_A (w_Y cI cJ cZ aY VY0 LY0 LY1 LY2 IY0) s.heap.size = A at hD ⊢
  have hA : ∀ q : Nat, s.heap.size ≤ q → A q := fun q h => by rw [← hAe]; exact Or.inr h
  have hS : va_S A s.heap s.heap [] := va_S.rf
  have hl := lv_entry ([.ref (aY 0), .long x1, .long x3, .long x5]) (n := 7) (Nat.le_of_ble_eq_true rfl)
  rw [lg_entry_eq]
  generalize (lg_sl ([.ref (aY 0), .long x1, .long x3, .long x5]) ++ List.replicate (7 - (lg_sl ([.ref (aY 0), .long x1, .long x3, .long x5])).length) Slot.unset).toArray = ls at hl ⊢
  have hl : lv_has ls 7 [(0, .ref (aY 0)), (1, .long x1), (3, .long x3), (5, .long x5)] := hl
  generalize hR : f_Ways_add VY0 LY0 LY1 LY2 x1 x3 x5 = r0
  obtain ⟨H, locs, hHe, hle⟩ : ∃ (H : Heap) (locs : List Loc), s.heap = H ∧ [] = locs := ⟨_, _, rfl, rfl⟩
  have hP : va_P (dC, dI) vwCl (w_Y cI cJ cZ aY VY0 LY0 LY1 LY2 IY0) H := by rw [← hHe]; exact hP
  have hS : va_S A s.heap H locs := by rw [← hHe, ← hle]; exact hS
  refine hw_start hHe hle ?_
  unfold f_Ways_add at hR
  refine lv_aload_n hx hb d_Ways_add_0 rfl (lv_at hl 0 rfl) ?_
  refine va_get (D := (dC, dI)) (ci := 3) (v := .ref (aY 1)) (C := R_Ways) (T := T_Ways) (N := 5) hx hb hG in_Ways hown hK hP 0 rfl rfl 1 (by decide) (hG _ m_35) (fun _ h9 => h9) rfl d_Ways_add_1 ?_
  refine lv_aload_n hx hb d_Ways_add_4 rfl (lv_at hl 0 rfl) ?_
  refine va_get (D := (dC, dI)) (ci := 3) (v := .int (nI VY0)) (C := R_Ways) (T := T_Ways) (N := 5) hx hb hG in_Ways hown hK hP 0 rfl rfl 0 (by decide) (hG _ m_33) (fun _ h9 => h9) rfl d_Ways_add_5 ?_
  refine lv_lload_n hx hb d_Ways_add_8 rfl (lv_at hl 1 rfl) ?_
  refine hw_last (f := LY0) hx hb hK hP hD hS 1 1 rfl rfl (by decide) (by omega) d_Ways_add_9 (fun H locs hP hD hS => ?_)
  have hP : va_P (dC, dI) vwCl (w_Y cI cJ cZ aY VY0 (vp_updL LY0 VY0 x1) LY1 LY2 IY0) H := hP
  have hD : va_D A (w_Y cI cJ cZ aY VY0 (vp_updL LY0 VY0 x1) LY1 LY2 IY0) := hD
  refine lv_aload_n hx hb d_Ways_add_10 rfl (lv_at hl 0 rfl) ?_
  refine va_get (D := (dC, dI)) (ci := 3) (v := .ref (aY 2)) (C := R_Ways) (T := T_Ways) (N := 5) hx hb hG in_Ways hown hK hP 0 rfl rfl 2 (by decide) (hG _ m_36) (fun _ h9 => h9) rfl d_Ways_add_11 ?_
  refine lv_aload_n hx hb d_Ways_add_14 rfl (lv_at hl 0 rfl) ?_
  refine va_get (D := (dC, dI)) (ci := 3) (v := .int (nI VY0)) (C := R_Ways) (T := T_Ways) (N := 5) hx hb hG in_Ways hown hK hP 0 rfl rfl 0 (by decide) (hG _ m_33) (fun _ h9 => h9) rfl d_Ways_add_15 ?_
  refine lv_lload_n hx hb d_Ways_add_18 rfl (lv_at hl 2 rfl) ?_
  refine hw_last (f := LY1) hx hb hK hP hD hS 2 1 rfl rfl (by decide) (by omega) d_Ways_add_19 (fun H locs hP hD hS => ?_)
  have hP : va_P (dC, dI) vwCl (w_Y cI cJ cZ aY VY0 (vp_updL LY0 VY0 x1) (vp_updL LY1 VY0 x3) LY2 IY0) H := hP
  have hD : va_D A (w_Y cI cJ cZ aY VY0 (vp_updL LY0 VY0 x1) (vp_updL LY1 VY0 x3) LY2 IY0) := hD
  refine lv_aload_n hx hb d_Ways_add_20 rfl (lv_at hl 0 rfl) ?_
  refine va_get (D := (dC, dI)) (ci := 3) (v := .ref (aY 3)) (C := R_Ways) (T := T_Ways) (N := 5) hx hb hG in_Ways hown hK hP 0 rfl rfl 3 (by decide) (hG _ m_37) (fun _ h9 => h9) rfl d_Ways_add_21 ?_
  refine lv_aload_n hx hb d_Ways_add_24 rfl (lv_at hl 0 rfl) ?_
  refine va_get (D := (dC, dI)) (ci := 3) (v := .int (nI VY0)) (C := R_Ways) (T := T_Ways) (N := 5) hx hb hG in_Ways hown hK hP 0 rfl rfl 0 (by decide) (hG _ m_33) (fun _ h9 => h9) rfl d_Ways_add_25 ?_
  refine lv_lload hx hb d_Ways_add_28 (lv_at hl 3 rfl) ?_
  refine hw_last (f := LY2) hx hb hK hP hD hS 3 1 rfl rfl (by decide) (by omega) d_Ways_add_30 (fun H locs hP hD hS => ?_)
  have hP : va_P (dC, dI) vwCl (w_Y cI cJ cZ aY VY0 (vp_updL LY0 VY0 x1) (vp_updL LY1 VY0 x3) (vp_updL LY2 VY0 x5) IY0) H := hP
  have hD : va_D A (w_Y cI cJ cZ aY VY0 (vp_updL LY0 VY0 x1) (vp_updL LY1 VY0 x3) (vp_updL LY2 VY0 x5) IY0) := hD
  refine lv_aload_n hx hb d_Ways_add_31 rfl (lv_at hl 0 rfl) ?_
  refine lv_dup hx hb d_Ways_add_32 rfl ?_
  refine va_get (D := (dC, dI)) (ci := 3) (v := .int (nI VY0)) (C := R_Ways) (T := T_Ways) (N := 5) hx hb hG in_Ways hown hK hP 0 rfl rfl 0 (by decide) (hG _ m_33) (fun _ h9 => h9) rfl d_Ways_add_33 ?_
  refine lv_iconst (v := nI 1) hx hb d_Ways_add_36 (by decide) ?_
  refine hw_iadd hx hb d_Ways_add_37 ?_
  refine va_put (D := (dC, dI)) (ci := 3) (v := .int (nI (VY0 + 1))) (ty := .int) (C := R_Ways) (T := T_Ways) (N := 5) hx hb hG in_Ways ty_Ways tok_Ways nok_Ways hown hK hP hD hS 0 rfl rfl 0 (by decide) (hG _ m_33) (fun _ h9 => h9) rfl (by decide +kernel) rfl rfl (Nat.le_of_ble_eq_true rfl) d_Ways_add_38 (fun H locs hP hD hS => ?_)
  have hP : va_P (dC, dI) vwCl (w_Y cI cJ cZ aY (VY0 + 1) (vp_updL LY0 VY0 x1) (vp_updL LY1 VY0 x3) (vp_updL LY2 VY0 x5) IY0) H := hP
  have hD : va_D A (w_Y cI cJ cZ aY (VY0 + 1) (vp_updL LY0 VY0 x1) (vp_updL LY1 VY0 x3) (vp_updL LY2 VY0 x5) IY0) := hD
  refine lv_aload_n hx hb d_Ways_add_41 rfl (lv_at hl 0 rfl) ?_
  refine va_get (D := (dC, dI)) (ci := 3) (v := .int (nI (VY0 + 1))) (C := R_Ways) (T := T_Ways) (N := 5) hx hb hG in_Ways hown hK hP 0 rfl rfl 0 (by decide) (hG _ m_33) (fun _ h9 => h9) rfl d_Ways_add_42 ?_
  refine lv_iconst (v := nI 1) hx hb d_Ways_add_45 (by decide) ?_
  refine hw_isub hx hb d_Ways_add_46 (by omega) ?_
  subst hR
  exact W.iret (v := nI ((VY0 + 1) - 1)) hx hb hr (fun t ht hW => ⟨⟨_, (), rfl, rfl, by rw [ht]; exact hP, va_K.moved hW.alike hK, hD⟩, hS.F ht⟩) hS.2.2 d_Ways_add_47
def f_Ways_shut_h3B (x3 : Nat) (x1 : Nat) (k_3 : (Nat) → (Nat → Int32) → (Nat → Int32)) (rec_3 : (Nat) → (Nat → Int32) → (Nat → Int32)) (x4_3 : Nat) (IY0_3 : Nat → Int32) : (Nat → Int32) :=
  if x3 < x4_3 then (k_3 x4_3 IY0_3) else (rec_3 (x4_3 + 1) (upd IY0_3 x1 ((IY0_3 x1) ||| ((nI 1) <<< ((nI x4_3) &&& 31)))))
def f_Ways_shut_h3 (x3 : Nat) (x1 : Nat) (k_3 : (Nat) → (Nat → Int32) → (Nat → Int32)) : Nat → (Nat) → (Nat → Int32) → (Nat → Int32)
  | 0, x4_3, IY0_3 => k_3 x4_3 IY0_3
  | n + 1, x4_3, IY0_3 => f_Ways_shut_h3B x3 x1 k_3 (fun x4_3 IY0_3 => f_Ways_shut_h3 x3 x1 k_3 n x4_3 IY0_3) x4_3 IY0_3
def f_Ways_shut_x3  (x4_3 : Nat) (IY0_3 : Nat → Int32) : (Nat → Int32) :=
  (IY0_3)
def f_Ways_shut (IY0 : Nat → Int32) (x1 : Nat) (x2 : Nat) (x3 : Nat) : (Nat → Int32) :=
  f_Ways_shut_h3 x3 x1 f_Ways_shut_x3 13 x2 IY0
set_option maxHeartbeats 4000000 in
set_option maxRecDepth 100000 in
theorem c_Ways_shut (l : Launch) (dC : Nat → ClassId) (dI : Nat → Nat → Nat) (cI cJ cZ : ClassId) (sz : Nat) (aY : Nat → Nat) (VY0 : Nat) (LY0 : Nat → Int64) (LY1 : Nat → Int64) (LY2 : Nat → Int64) (IY0 : Nat → Int32) (x1 : Nat) (x2 : Nat) (x3 : Nat) (hx1 : x1 < 6) (hx2 : x2 < 12) (hx3 : x3 < 12) : hh_Cv l y_Ways_shut u_Ways_shut ({ frames := 0, cells := 0, slots := 0, locals := 0 }) (dC, dI) vwCl [(cI, .int), (cJ, .long), (cZ, .boolean)] (w_Y cI cJ cZ aY VY0 LY0 LY1 LY2 IY0) sz [.ref (aY 0), .int (nI x1), .int (nI x2), .int (nI x3)] (w_Y cI cJ cZ aY VY0 LY0 LY1 LY2 (f_Ways_shut IY0 x1 x2 x3)) 0 0 := by
  unfold hh_Cv
  refine Met.ofW (cc := b_Ways_shut) (maxL := 5) (ret := none) (by decide) rfl ?_
  intro p e s m args below meth c s₁ B hml hv
  obtain ⟨rfl, hsz, hP, hK, hD0⟩ := hv
  have hx := B.exec
  have hb := B.bytes
  have hr := B.returns
  have hts := atoms_spec (ws := u_Ways_shut) B.pre
  have hG : ∀ w ∈ wG, w.before ([.ref (aY 0), .int (nI x1), .int (nI x2), .int (nI x3)]).toArray s = true := fun w h => hts w (List.mem_cons_of_mem _ h)
  have hown : s.vm.findClass R_Ways = some m.cls := findClass_of_methodNamed B.named
  have hlocks := B.notSynchronized
  subst hsz
  have hD := hD0.self (sz := s.heap.size)
  generalize hAe : va_A (w_Y cI cJ cZ aY VY0 LY0 LY1 LY2 IY0) s.heap.size = A at hD ⊢
  have hA : ∀ q : Nat, s.heap.size ≤ q → A q := fun q h => by rw [← hAe]; exact Or.inr h
  have hS : va_S A s.heap s.heap [] := va_S.rf
  have hl := lv_entry ([.ref (aY 0), .int (nI x1), .int (nI x2), .int (nI x3)]) (n := 5) (Nat.le_of_ble_eq_true rfl)
  rw [lg_entry_eq]
  generalize (lg_sl ([.ref (aY 0), .int (nI x1), .int (nI x2), .int (nI x3)]) ++ List.replicate (5 - (lg_sl ([.ref (aY 0), .int (nI x1), .int (nI x2), .int (nI x3)])).length) Slot.unset).toArray = ls at hl ⊢
  have hl : lv_has ls 5 [(0, .ref (aY 0)), (1, .int (nI x1)), (2, .int (nI x2)), (3, .int (nI x3))] := hl
  generalize hR : f_Ways_shut IY0 x1 x2 x3 = r0
  obtain ⟨H, locs, hHe, hle⟩ : ∃ (H : Heap) (locs : List Loc), s.heap = H ∧ [] = locs := ⟨_, _, rfl, rfl⟩
  have hP : va_P (dC, dI) vwCl (w_Y cI cJ cZ aY VY0 LY0 LY1 LY2 IY0) H := by rw [← hHe]; exact hP
  have hS : va_S A s.heap H locs := by rw [← hHe, ← hle]; exact hS
  refine hw_start hHe hle ?_
  unfold f_Ways_shut at hR
  refine lv_iload_n hx hb d_Ways_shut_0 rfl (lv_at hl 2 rfl) ?_
  refine lv_istore (lv' := [(4, .int (nI x2)), (0, .ref (aY 0)), (1, .int (nI x1)), (2, .int (nI x2)), (3, .int (nI x3))]) hx hb d_Ways_shut_1 hl (by decide) rfl (fun ls hl => ?_)
  obtain ⟨k_3, hk_3, hR⟩ : ∃ k, f_Ways_shut_x3 = k ∧ f_Ways_shut_h3 x3 x1 k 13 x2 IY0 = r0 := ⟨_, rfl, hR⟩
  have X_3 : ∀ (x4_3 : Nat) (IY0_3 : Nat → Int32) (hi : x4_3 ≤ 12) (H : Heap) (locs : List Loc) (hP : va_P (dC, dI) vwCl (w_Y cI cJ cZ aY VY0 LY0 LY1 LY2 IY0_3) H) (hD : va_D A (w_Y cI cJ cZ aY VY0 LY0 LY1 LY2 IY0_3)) (hS : va_S A s.heap H locs) (ls : Array Slot) (hl : lv_has ls 5 [(0, .ref (aY 0)), (1, .int (nI x1)), (2, .int (nI x2)), (3, .int (nI x3)), (4, .int (nI x4_3))]) (hR : k_3 x4_3 IY0_3 = r0), W p l e (headSpec u_Ways_shut ({ frames := 0, cells := 0, slots := 0, locals := 0 })).room s m ([.ref (aY 0), .int (nI x1), .int (nI x2), .int (nI x3)]).toArray below meth c H locs 0 0 (hh_Zv below (dC, dI) vwCl [(cI, .int), (cJ, .long), (cZ, .boolean)] A (w_Y cI cJ cZ aY VY0 LY0 LY1 LY2 r0) ([.ref (aY 0), .int (nI x1), .int (nI x2), .int (nI x3)]).toArray s) (F0 m 28 ls []) := by
    intro x4_3 IY0_3 hi H locs hP hD hS ls hl hR
    rw [← hk_3] at hR
    unfold f_Ways_shut_x3 at hR
    subst hR
    exact W.vret hx hb hr (fun t ht hW => ⟨⟨(), rfl, trivial, by rw [ht]; exact hP, va_K.moved hW.alike hK, hD⟩, hS.F ht⟩) hS.2.2 d_Ways_shut_28
  have L_3 : ∀ (n : Nat) (x4_3 : Nat) (IY0_3 : Nat → Int32) (hi : x4_3 ≤ 12) (hfu : 12 - x4_3 < n) (H : Heap) (locs : List Loc) (hP : va_P (dC, dI) vwCl (w_Y cI cJ cZ aY VY0 LY0 LY1 LY2 IY0_3) H) (hD : va_D A (w_Y cI cJ cZ aY VY0 LY0 LY1 LY2 IY0_3)) (hS : va_S A s.heap H locs) (ls : Array Slot) (hl : lv_has ls 5 [(0, .ref (aY 0)), (1, .int (nI x1)), (2, .int (nI x2)), (3, .int (nI x3)), (4, .int (nI x4_3))]) (hR : f_Ways_shut_h3 x3 x1 k_3 n x4_3 IY0_3 = r0), W p l e (headSpec u_Ways_shut ({ frames := 0, cells := 0, slots := 0, locals := 0 })).room s m ([.ref (aY 0), .int (nI x1), .int (nI x2), .int (nI x3)]).toArray below meth c H locs 0 0 (hh_Zv below (dC, dI) vwCl [(cI, .int), (cJ, .long), (cZ, .boolean)] A (w_Y cI cJ cZ aY VY0 LY0 LY1 LY2 r0) ([.ref (aY 0), .int (nI x1), .int (nI x2), .int (nI x3)]).toArray s) (F0 m 3 ls []) := by
    intro n
    induction n with
    | zero =>
      intro x4_3 IY0_3 hi hfu H locs hP hD hS ls hl hR
      exact absurd hfu (Nat.not_lt_zero _)
    | succ n ih_3 =>
      intro x4_3 IY0_3 hi hfu H locs hP hD hS ls hl hR
      rw [f_Ways_shut_h3] at hR
      obtain ⟨rec_3, hrec_3, hR⟩ : ∃ r, r = _ ∧ f_Ways_shut_h3B x3 x1 k_3 r x4_3 IY0_3 = r0 := ⟨_, rfl, hR⟩
      unfold f_Ways_shut_h3B at hR
      refine lv_iload hx hb d_Ways_shut_3 (lv_at hl 4 rfl) ?_
      refine lv_iload_n hx hb d_Ways_shut_5 rfl (lv_at hl 3 rfl) ?_
      refine hw_icmp_gt (tgt := 28) hx hb d_Ways_shut_6 (by decide) (by omega) (by omega) (fun c6 => ?_) (fun c6 => ?_)
      · replace hR := (if_pos c6).symm.trans hR
        exact X_3 x4_3 IY0_3 (by first | assumption | omega | exact hw_upb (by assumption) (by omega)) H locs hP hD hS ls (lv_sub hl [0, 1, 2, 3, 4] rfl) hR
      · replace hR := (if_neg c6).symm.trans hR
        refine lv_aload_n hx hb d_Ways_shut_9 rfl (lv_at hl 0 rfl) ?_
        refine va_get (D := (dC, dI)) (ci := 3) (v := .ref (aY 4)) (C := R_Ways) (T := T_Ways) (N := 5) hx hb hG in_Ways hown hK hP 0 rfl rfl 4 (by decide) (hG _ m_38) (fun _ h9 => h9) rfl d_Ways_shut_10 ?_
        refine lv_iload_n hx hb d_Ways_shut_13 rfl (lv_at hl 1 rfl) ?_
        refine lv_dup2_11 hx hb d_Ways_shut_14 rfl rfl ?_
        refine hw_iald (f := IY0_3) hx hb hK hP 4 0 rfl rfl (by decide) (by omega) d_Ways_shut_15 ?_
        refine lv_iconst (v := nI 1) hx hb d_Ways_shut_16 (by decide) ?_
        refine lv_iload hx hb d_Ways_shut_17 (lv_at hl 4 rfl) ?_
        refine lv_ishl hx hb d_Ways_shut_19 ?_
        refine lv_ior hx hb d_Ways_shut_20 ?_
        refine hw_iast (f := IY0_3) hx hb hK hP hD hS 4 0 rfl rfl (by decide) (by omega) d_Ways_shut_21 (fun H locs hP hD hS => ?_)
        have hP : va_P (dC, dI) vwCl (w_Y cI cJ cZ aY VY0 LY0 LY1 LY2 (upd IY0_3 x1 ((IY0_3 x1) ||| ((nI 1) <<< ((nI x4_3) &&& 31))))) H := hP
        have hD : va_D A (w_Y cI cJ cZ aY VY0 LY0 LY1 LY2 (upd IY0_3 x1 ((IY0_3 x1) ||| ((nI 1) <<< ((nI x4_3) &&& 31))))) := hD
        refine lv_iinc (v := nI (x4_3 + 1)) (lv' := [(4, .int (nI (x4_3 + 1))), (0, .ref (aY 0)), (1, .int (nI x1)), (2, .int (nI x2)), (3, .int (nI x3))]) hx hb d_Ways_shut_22 hl (k := 4) rfl (hw_inc _ 1) (by decide) rfl (fun ls hl => ?_)
        refine lv_goto (tgt := 3) hx hb d_Ways_shut_25 (by decide) ?_
        rw [hrec_3] at hR
        exact ih_3 (x4_3 + 1) (upd IY0_3 x1 ((IY0_3 x1) ||| ((nI 1) <<< ((nI x4_3) &&& 31)))) (by first | assumption | omega | exact hw_upb (by assumption) (by omega)) (by omega) H locs hP hD hS ls (lv_sub hl [1, 2, 3, 4, 0] rfl) hR
  exact L_3 13 x2 IY0 (by omega) (by omega) H locs hP hD hS ls (lv_sub hl [1, 2, 3, 4, 0] rfl) hR
