abbrev b_Plan_priceOfOneLess : ByteArray := prog_2_method_9_code
def y_Plan_priceOfOneLess : MethodName := ⟨R_Plan, "priceOfOneLess", "(I)J"⟩
def u_Plan_priceOfOneLess : List Cond := Cond.code y_Plan_priceOfOneLess b_Plan_priceOfOneLess 3 (some .long) :: wG
theorem d_Plan_priceOfOneLess_0 : decode b_Plan_priceOfOneLess 0 = .ok (.aload_n 0, 1) := by decide +kernel
theorem d_Plan_priceOfOneLess_1 : decode b_Plan_priceOfOneLess 1 = .ok (.iload_n 1, 1) := by decide +kernel
theorem d_Plan_priceOfOneLess_2 : decode b_Plan_priceOfOneLess 2 = .ok (.invokevirtual 73, 3) := by decide +kernel
theorem d_Plan_priceOfOneLess_5 : decode b_Plan_priceOfOneLess 5 = .ok (.istore_n 2, 1) := by decide +kernel
theorem d_Plan_priceOfOneLess_6 : decode b_Plan_priceOfOneLess 6 = .ok (.iload_n 2, 1) := by decide +kernel
theorem d_Plan_priceOfOneLess_7 : decode b_Plan_priceOfOneLess 7 = .ok (.ifCond .ge 9, 3) := by decide +kernel
theorem d_Plan_priceOfOneLess_10 : decode b_Plan_priceOfOneLess 10 = .ok (.ldc2_w 77, 3) := by decide +kernel
theorem d_Plan_priceOfOneLess_13 : decode b_Plan_priceOfOneLess 13 = .ok (.goto 20, 3) := by decide +kernel
theorem d_Plan_priceOfOneLess_16 : decode b_Plan_priceOfOneLess 16 = .ok (.aload_n 0, 1) := by decide +kernel
theorem d_Plan_priceOfOneLess_17 : decode b_Plan_priceOfOneLess 17 = .ok (.getfield 20, 3) := by decide +kernel
theorem d_Plan_priceOfOneLess_20 : decode b_Plan_priceOfOneLess 20 = .ok (.iload_n 1, 1) := by decide +kernel
theorem d_Plan_priceOfOneLess_21 : decode b_Plan_priceOfOneLess 21 = .ok (.laload, 1) := by decide +kernel
theorem d_Plan_priceOfOneLess_22 : decode b_Plan_priceOfOneLess 22 = .ok (.aload_n 0, 1) := by decide +kernel
theorem d_Plan_priceOfOneLess_23 : decode b_Plan_priceOfOneLess 23 = .ok (.getfield 26, 3) := by decide +kernel
theorem d_Plan_priceOfOneLess_26 : decode b_Plan_priceOfOneLess 26 = .ok (.iload_n 2, 1) := by decide +kernel
theorem d_Plan_priceOfOneLess_27 : decode b_Plan_priceOfOneLess 27 = .ok (.laload, 1) := by decide +kernel
theorem d_Plan_priceOfOneLess_28 : decode b_Plan_priceOfOneLess 28 = .ok (.ldc2_w 79, 3) := by decide +kernel
theorem d_Plan_priceOfOneLess_31 : decode b_Plan_priceOfOneLess 31 = .ok (.ldiv, 1) := by decide +kernel
theorem d_Plan_priceOfOneLess_32 : decode b_Plan_priceOfOneLess 32 = .ok (.ladd, 1) := by decide +kernel
theorem d_Plan_priceOfOneLess_33 : decode b_Plan_priceOfOneLess 33 = .ok (.lreturn, 1) := by decide +kernel
abbrev b_Plan_priceOfOneMore : ByteArray := prog_2_method_10_code
def y_Plan_priceOfOneMore : MethodName := ⟨R_Plan, "priceOfOneMore", "(I)J"⟩
def u_Plan_priceOfOneMore : List Cond := Cond.code y_Plan_priceOfOneMore b_Plan_priceOfOneMore 3 (some .long) :: wG
theorem d_Plan_priceOfOneMore_0 : decode b_Plan_priceOfOneMore 0 = .ok (.aload_n 0, 1) := by decide +kernel
theorem d_Plan_priceOfOneMore_1 : decode b_Plan_priceOfOneMore 1 = .ok (.getfield 40, 3) := by decide +kernel
theorem d_Plan_priceOfOneMore_4 : decode b_Plan_priceOfOneMore 4 = .ok (.aload_n 0, 1) := by decide +kernel
theorem d_Plan_priceOfOneMore_5 : decode b_Plan_priceOfOneMore 5 = .ok (.getfield 40, 3) := by decide +kernel
theorem d_Plan_priceOfOneMore_8 : decode b_Plan_priceOfOneMore 8 = .ok (.getfield 58, 3) := by decide +kernel
theorem d_Plan_priceOfOneMore_11 : decode b_Plan_priceOfOneMore 11 = .ok (.iload_n 1, 1) := by decide +kernel
theorem d_Plan_priceOfOneMore_12 : decode b_Plan_priceOfOneMore 12 = .ok (.iaload, 1) := by decide +kernel
theorem d_Plan_priceOfOneMore_13 : decode b_Plan_priceOfOneMore 13 = .ok (.invokevirtual 81, 3) := by decide +kernel
theorem d_Plan_priceOfOneMore_16 : decode b_Plan_priceOfOneMore 16 = .ok (.lconst 1, 1) := by decide +kernel
theorem d_Plan_priceOfOneMore_17 : decode b_Plan_priceOfOneMore 17 = .ok (.lcmp, 1) := by decide +kernel
theorem d_Plan_priceOfOneMore_18 : decode b_Plan_priceOfOneMore 18 = .ok (.ifCond .ge 7, 3) := by decide +kernel
theorem d_Plan_priceOfOneMore_21 : decode b_Plan_priceOfOneMore 21 = .ok (.ldc2_w 77, 3) := by decide +kernel
theorem d_Plan_priceOfOneMore_24 : decode b_Plan_priceOfOneMore 24 = .ok (.lreturn, 1) := by decide +kernel
theorem d_Plan_priceOfOneMore_25 : decode b_Plan_priceOfOneMore 25 = .ok (.aload_n 0, 1) := by decide +kernel
theorem d_Plan_priceOfOneMore_26 : decode b_Plan_priceOfOneMore 26 = .ok (.bipush 12, 2) := by decide +kernel
theorem d_Plan_priceOfOneMore_28 : decode b_Plan_priceOfOneMore 28 = .ok (.iload_n 1, 1) := by decide +kernel
theorem d_Plan_priceOfOneMore_29 : decode b_Plan_priceOfOneMore 29 = .ok (.iadd, 1) := by decide +kernel
theorem d_Plan_priceOfOneMore_30 : decode b_Plan_priceOfOneMore 30 = .ok (.invokevirtual 73, 3) := by decide +kernel
theorem d_Plan_priceOfOneMore_33 : decode b_Plan_priceOfOneMore 33 = .ok (.istore_n 2, 1) := by decide +kernel
theorem d_Plan_priceOfOneMore_34 : decode b_Plan_priceOfOneMore 34 = .ok (.iload_n 2, 1) := by decide +kernel
theorem d_Plan_priceOfOneMore_35 : decode b_Plan_priceOfOneMore 35 = .ok (.ifCond .ge 9, 3) := by decide +kernel
theorem d_Plan_priceOfOneMore_38 : decode b_Plan_priceOfOneMore 38 = .ok (.ldc2_w 77, 3) := by decide +kernel
theorem d_Plan_priceOfOneMore_41 : decode b_Plan_priceOfOneMore 41 = .ok (.goto 20, 3) := by decide +kernel
theorem d_Plan_priceOfOneMore_44 : decode b_Plan_priceOfOneMore 44 = .ok (.aload_n 0, 1) := by decide +kernel
theorem d_Plan_priceOfOneMore_45 : decode b_Plan_priceOfOneMore 45 = .ok (.getfield 23, 3) := by decide +kernel
theorem d_Plan_priceOfOneMore_48 : decode b_Plan_priceOfOneMore 48 = .ok (.iload_n 1, 1) := by decide +kernel
theorem d_Plan_priceOfOneMore_49 : decode b_Plan_priceOfOneMore 49 = .ok (.laload, 1) := by decide +kernel
theorem d_Plan_priceOfOneMore_50 : decode b_Plan_priceOfOneMore 50 = .ok (.aload_n 0, 1) := by decide +kernel
theorem d_Plan_priceOfOneMore_51 : decode b_Plan_priceOfOneMore 51 = .ok (.getfield 26, 3) := by decide +kernel
theorem d_Plan_priceOfOneMore_54 : decode b_Plan_priceOfOneMore 54 = .ok (.iload_n 2, 1) := by decide +kernel
theorem d_Plan_priceOfOneMore_55 : decode b_Plan_priceOfOneMore 55 = .ok (.laload, 1) := by decide +kernel
theorem d_Plan_priceOfOneMore_56 : decode b_Plan_priceOfOneMore 56 = .ok (.ldc2_w 79, 3) := by decide +kernel
theorem d_Plan_priceOfOneMore_59 : decode b_Plan_priceOfOneMore 59 = .ok (.ldiv, 1) := by decide +kernel
theorem d_Plan_priceOfOneMore_60 : decode b_Plan_priceOfOneMore 60 = .ok (.ladd, 1) := by decide +kernel
theorem d_Plan_priceOfOneMore_61 : decode b_Plan_priceOfOneMore 61 = .ok (.lreturn, 1) := by decide +kernel
def f_Plan_priceOfOneLess (VP0 : Nat) (VP1 : Nat) (LP0 : Nat → Int64) (LP1 : Nat → Int64) (LP2 : Nat → Int64) (LP3 : Nat → Int64) (LP4 : Nat → Int64) (IP0 : Nat → Int32) (IP1 : Nat → Int32) (x1 : Nat) : Int64 × (Nat → Int64) × (Nat → Int32) × (Nat → Int32) :=
  hh_bind (f_Plan_search VP0 VP1 LP0 LP1 LP2 LP3 LP4 IP0 IP1 x1) (fun y2 => if 0 ≤ y2.1 then ((LP2 x1) + ((y2.2.1 y2.1.toNatClampNeg) / 32), y2.2.1, y2.2.2.1, y2.2.2.2) else ((-1), y2.2.1, y2.2.2.1, y2.2.2.2))
set_option maxHeartbeats 4000000 in
set_option maxRecDepth 100000 in
theorem c_Plan_priceOfOneLess (l : Launch) (dC : Nat → ClassId) (dI : Nat → Nat → Nat) (cI cJ cZ : ClassId) (sz : Nat) (aP : Nat → Nat) (VP0 : Nat) (VP1 : Nat) (VP2 : Nat) (NP0 : Nat → Nat) (LP0 : Nat → Int64) (LP1 : Nat → Int64) (LP2 : Nat → Int64) (LP3 : Nat → Int64) (LP4 : Nat → Int64) (IP0 : Nat → Int32) (IP1 : Nat → Int32) (aS : Nat → Nat) (VS0 : Nat) (VS1 : Nat) (VS2 : Nat) (NS0 : Nat → Nat) (NS1 : Nat → Nat) (NS2 : Nat → Nat) (LS0 : Nat → Int64) (LS1 : Nat → Int64) (LS2 : Nat → Int64) (LS3 : Nat → Int64) (LS4 : Nat → Int64) (LS5 : Nat → Int64) (LS6 : Nat → Int64) (LS7 : Nat → Int64) (LS8 : Nat → Int64) (IS0 : Nat → Int32) (aY : Nat → Nat) (VY0 : Nat) (LY0 : Nat → Int64) (LY1 : Nat → Int64) (LY2 : Nat → Int64) (IY0 : Nat → Int32) (x1 : Nat) (hs12 : VP0 ≤ 12) (hb8 : VP1 ≤ 8) (hx1 : x1 < 12) : hh_Cl l y_Plan_priceOfOneLess u_Plan_priceOfOneLess ({ frames := 3, cells := 0, slots := 0, locals := 73 }) (dC, dI) vwCl [(cI, .int), (cJ, .long), (cZ, .boolean)] (w_P cI cJ cZ aP VP0 VP1 VP2 NP0 LP0 LP1 LP2 LP3 LP4 IP0 IP1 aS ++ w_S cI cJ cZ aS VS0 VS1 VS2 NS0 NS1 NS2 LS0 LS1 LS2 LS3 LS4 LS5 LS6 LS7 LS8 IS0 aY ++ w_Y cI cJ cZ aY VY0 LY0 LY1 LY2 IY0) sz [.ref (aP 0), .int (nI x1)] ((f_Plan_priceOfOneLess VP0 VP1 LP0 LP1 LP2 LP3 LP4 IP0 IP1 x1).1) (w_P cI cJ cZ aP VP0 VP1 VP2 NP0 LP0 LP1 LP2 LP3 ((f_Plan_priceOfOneLess VP0 VP1 LP0 LP1 LP2 LP3 LP4 IP0 IP1 x1).2.1) ((f_Plan_priceOfOneLess VP0 VP1 LP0 LP1 LP2 LP3 LP4 IP0 IP1 x1).2.2.1) ((f_Plan_priceOfOneLess VP0 VP1 LP0 LP1 LP2 LP3 LP4 IP0 IP1 x1).2.2.2) aS ++ w_S cI cJ cZ aS VS0 VS1 VS2 NS0 NS1 NS2 LS0 LS1 LS2 LS3 LS4 LS5 LS6 LS7 LS8 IS0 aY ++ w_Y cI cJ cZ aY VY0 LY0 LY1 LY2 IY0) 0 0 := by
  unfold hh_Cl
  refine Met.ofW (cc := b_Plan_priceOfOneLess) (maxL := 3) (ret := (some .long)) (by decide) rfl ?_
  intro p e s m args below meth c s₁ B hml hv
  obtain ⟨rfl, hsz, hP, hK, hD0⟩ := hv
  have hx := B.exec
  have hb := B.bytes
  have hr := B.returns
  have hts := atoms_spec (ws := u_Plan_priceOfOneLess) B.pre
  have hG : ∀ w ∈ wG, w.before ([.ref (aP 0), .int (nI x1)]).toArray s = true := fun w h => hts w (List.mem_cons_of_mem _ h)
  have hown : s.vm.findClass R_Plan = some m.cls := findClass_of_methodNamed B.named
  have hlocks := B.notSynchronized
  subst hsz
  have hD := hD0.self (sz := s.heap.size)
  generalize hAe : va_A (w_P cI cJ cZ aP VP0 VP1 VP2 NP0 LP0 LP1 LP2 LP3 LP4 IP0 IP1 aS ++ w_S cI cJ cZ aS VS0 VS1 VS2 NS0 NS1 NS2 LS0 LS1 LS2 LS3 LS4 LS5 LS6 LS7 LS8 IS0 aY ++ w_Y cI cJ cZ aY VY0 LY0 LY1 LY2 IY0) s.heap.size = A at hD ⊢
  have hA : ∀ q : Nat, s.heap.size ≤ q → A q := fun q h => by rw [← hAe]; exact Or.inr h
  have hS : va_S A s.heap s.heap [] := va_S.rf
  have hl := lv_entry ([.ref (aP 0), .int (nI x1)]) (n := 3) (Nat.le_of_ble_eq_true rfl)
  rw [lg_entry_eq]
  generalize (lg_sl ([.ref (aP 0), .int (nI x1)]) ++ List.replicate (3 - (lg_sl ([.ref (aP 0), .int (nI x1)])).length) Slot.unset).toArray = ls at hl ⊢
  have hl : lv_has ls 3 [(0, .ref (aP 0)), (1, .int (nI x1))] := hl
  generalize hR : f_Plan_priceOfOneLess VP0 VP1 LP0 LP1 LP2 LP3 LP4 IP0 IP1 x1 = r0
  obtain ⟨H, locs, hHe, hle⟩ : ∃ (H : Heap) (locs : List Loc), s.heap = H ∧ [] = locs := ⟨_, _, rfl, rfl⟩
  have hP : va_P (dC, dI) vwCl (w_P cI cJ cZ aP VP0 VP1 VP2 NP0 LP0 LP1 LP2 LP3 LP4 IP0 IP1 aS ++ w_S cI cJ cZ aS VS0 VS1 VS2 NS0 NS1 NS2 LS0 LS1 LS2 LS3 LS4 LS5 LS6 LS7 LS8 IS0 aY ++ w_Y cI cJ cZ aY VY0 LY0 LY1 LY2 IY0) H := by rw [← hHe]; exact hP
  have hS : va_S A s.heap H locs := by rw [← hHe, ← hle]; exact hS
  refine hw_start hHe hle ?_
  unfold f_Plan_priceOfOneLess at hR
  refine lv_aload_n hx hb d_Plan_priceOfOneLess_0 rfl (lv_at hl 0 rfl) ?_
  refine lv_iload_n hx hb d_Plan_priceOfOneLess_1 rfl (lv_at hl 1 rfl) ?_
  obtain ⟨y2, hy2, hR⟩ := hw_bind hR
  have hM := c_Plan_search l dC dI cI cJ cZ H.size aP VP0 VP1 VP2 NP0 LP0 LP1 LP2 LP3 LP4 IP0 IP1 aS VS0 VS1 VS2 NS0 NS1 NS2 LS0 LS1 LS2 LS3 LS4 LS5 LS6 LS7 LS8 IS0 aY VY0 LY0 LY1 LY2 IY0 x1 (by first | assumption | omega) (by first | assumption | omega) (by first | assumption | omega)
  rw [hy2] at hM
  refine hw_callVi (As := [.int (nI x1)]) (rest := []) (wr := ([] : va_W)) ⟨hx, hb, hml, hown, hG⟩ hM (hw_cwV 1 hG m_331 m_333 mp_0 m_5 m_334 rfl rfl (by decide +kernel) ⟨Nat.le_of_ble_eq_true rfl, Nat.le_of_ble_eq_true rfl⟩) hK hP hD hS hA [0, 1, 2, 3, 4, 5, 6, 7, 8, 9, 10, 11, 12, 13, 14, 15, 16, 17, 18, 19, 20, 21, 22, 23, 24, 25, 26, 27] [] rfl rfl (by decide) (by decide) (by decide) (hw_recv hK hP 0 rfl rfl) rfl hl.1 rfl (Nat.le_of_ble_eq_true rfl) d_Plan_priceOfOneLess_2 ⟨Nat.le_of_ble_eq_true rfl, Nat.le_of_ble_eq_true rfl⟩ (fun H locs hP hD hS => ?_)
  have hP : va_P (dC, dI) vwCl (w_P cI cJ cZ aP VP0 VP1 VP2 NP0 LP0 LP1 LP2 LP3 y2.2.1 y2.2.2.1 y2.2.2.2 aS ++ w_S cI cJ cZ aS VS0 VS1 VS2 NS0 NS1 NS2 LS0 LS1 LS2 LS3 LS4 LS5 LS6 LS7 LS8 IS0 aY ++ w_Y cI cJ cZ aY VY0 LY0 LY1 LY2 IY0) H := hP
  have hD : va_D A (w_P cI cJ cZ aP VP0 VP1 VP2 NP0 LP0 LP1 LP2 LP3 y2.2.1 y2.2.2.1 y2.2.2.2 aS ++ w_S cI cJ cZ aS VS0 VS1 VS2 NS0 NS1 NS2 LS0 LS1 LS2 LS3 LS4 LS5 LS6 LS7 LS8 IS0 aY ++ w_Y cI cJ cZ aY VY0 LY0 LY1 LY2 IY0) := hD
  have hfo2 := f_Plan_search_found LP0 LP1 LP2 LP3 LP4 IP0 IP1 x1 hs12 hb8
  rw [hy2] at hfo2
  have hlt2 := hp_found_lt hfo2
  refine lv_istore_n (lv' := [(2, .int y2.1), (0, .ref (aP 0)), (1, .int (nI x1))]) hx hb d_Plan_priceOfOneLess_5 rfl hl (by decide) rfl (fun ls hl => ?_)
  refine lv_iload_n hx hb d_Plan_priceOfOneLess_6 rfl (lv_at hl 0 rfl) ?_
  refine lv_if_ge (tgt := 16) hx hb d_Plan_priceOfOneLess_7 (by decide) (fun c7 => ?_) (fun c7 => ?_)
  · replace hR := (if_pos c7).symm.trans hR
    have en16_2 : nI (y2.1.toNatClampNeg) = y2.1 := hw_nat0 (by assumption)
    have hl : lv_has ls 3 [(2, .int (nI y2.1.toNatClampNeg)), (0, .ref (aP 0)), (1, .int (nI x1))] := by rw [en16_2]; exact hl
    refine lv_aload_n hx hb d_Plan_priceOfOneLess_16 rfl (lv_at hl 1 rfl) ?_
    refine va_get (D := (dC, dI)) (ci := 0) (v := .ref (aP 3)) (C := R_Plan) (T := T_Plan) (N := 12) hx hb hG in_Plan hown hK hP 0 rfl rfl 5 (by decide) (hG _ m_136) (fun _ h9 => h9) rfl d_Plan_priceOfOneLess_17 ?_
    refine lv_iload_n hx hb d_Plan_priceOfOneLess_20 rfl (lv_at hl 2 rfl) ?_
    refine hw_lald (f := LP2) hx hb hK hP 3 1 rfl rfl (by decide) (by omega) d_Plan_priceOfOneLess_21 ?_
    refine lv_aload_n hx hb d_Plan_priceOfOneLess_22 rfl (lv_at hl 1 rfl) ?_
    refine va_get (D := (dC, dI)) (ci := 0) (v := .ref (aP 5)) (C := R_Plan) (T := T_Plan) (N := 12) hx hb hG in_Plan hown hK hP 0 rfl rfl 7 (by decide) (hG _ m_138) (fun _ h9 => h9) rfl d_Plan_priceOfOneLess_23 ?_
    refine lv_iload_n hx hb d_Plan_priceOfOneLess_26 rfl (lv_at hl 0 rfl) ?_
    refine hw_lald (f := y2.2.1) hx hb hK hP 5 1 rfl rfl (by decide) (by omega) d_Plan_priceOfOneLess_27 ?_
    refine lv_ldc2 (v := 32) hx hb hown (hG _ m_348) d_Plan_priceOfOneLess_28 ?_
    refine lv_ldiv hx hb d_Plan_priceOfOneLess_31 (by decide) ?_
    refine lv_ladd hx hb d_Plan_priceOfOneLess_32 ?_
    subst hR
    exact W.lret (v := (LP2 x1) + ((y2.2.1 y2.1.toNatClampNeg) / 32)) hx hb hr (fun t ht hW => ⟨⟨_, (), rfl, rfl, by rw [ht]; exact hP, va_K.moved hW.alike hK, hD⟩, hS.F ht⟩) hS.2.2 d_Plan_priceOfOneLess_33
  · replace hR := (if_neg c7).symm.trans hR
    refine lv_ldc2 (v := (-1)) hx hb hown (hG _ m_330) d_Plan_priceOfOneLess_10 ?_
    refine lv_goto (tgt := 33) hx hb d_Plan_priceOfOneLess_13 (by decide) ?_
    subst hR
    exact W.lret (v := (-1)) hx hb hr (fun t ht hW => ⟨⟨_, (), rfl, rfl, by rw [ht]; exact hP, va_K.moved hW.alike hK, hD⟩, hS.F ht⟩) hS.2.2 d_Plan_priceOfOneLess_33
def f_Plan_priceOfOneMore (VP0 : Nat) (VP1 : Nat) (LP0 : Nat → Int64) (LP1 : Nat → Int64) (LP2 : Nat → Int64) (LP3 : Nat → Int64) (LP4 : Nat → Int64) (IP0 : Nat → Int32) (IP1 : Nat → Int32) (VS2 : Nat) (NS2 : Nat → Nat) (LS4 : Nat → Int64) (LS8 : Nat → Int64) (x1 : Nat) : Int64 × (Nat → Int64) × (Nat → Int32) × (Nat → Int32) :=
  hh_bind (f_Site_weekSpare VS2 NS2 LS4 LS8 (NS2 x1)) (fun y13 => if 1 ≤ y13 then (hh_bind (f_Plan_search VP0 VP1 LP0 LP1 LP2 LP3 LP4 IP0 IP1 (12 + x1)) (fun y30 => if 0 ≤ y30.1 then ((LP3 x1) + ((y30.2.1 y30.1.toNatClampNeg) / 32), y30.2.1, y30.2.2.1, y30.2.2.2) else ((-1), y30.2.1, y30.2.2.1, y30.2.2.2))) else ((-1), LP4, IP0, IP1))
set_option maxHeartbeats 4000000 in
set_option maxRecDepth 100000 in
theorem c_Plan_priceOfOneMore (l : Launch) (dC : Nat → ClassId) (dI : Nat → Nat → Nat) (cI cJ cZ : ClassId) (sz : Nat) (aP : Nat → Nat) (VP0 : Nat) (VP1 : Nat) (VP2 : Nat) (NP0 : Nat → Nat) (LP0 : Nat → Int64) (LP1 : Nat → Int64) (LP2 : Nat → Int64) (LP3 : Nat → Int64) (LP4 : Nat → Int64) (IP0 : Nat → Int32) (IP1 : Nat → Int32) (aS : Nat → Nat) (VS0 : Nat) (VS1 : Nat) (VS2 : Nat) (NS0 : Nat → Nat) (NS1 : Nat → Nat) (NS2 : Nat → Nat) (LS0 : Nat → Int64) (LS1 : Nat → Int64) (LS2 : Nat → Int64) (LS3 : Nat → Int64) (LS4 : Nat → Int64) (LS5 : Nat → Int64) (LS6 : Nat → Int64) (LS7 : Nat → Int64) (LS8 : Nat → Int64) (IS0 : Nat → Int32) (aY : Nat → Nat) (VY0 : Nat) (LY0 : Nat → Int64) (LY1 : Nat → Int64) (LY2 : Nat → Int64) (IY0 : Nat → Int32) (x1 : Nat) (hs12 : VP0 ≤ 12) (hb8 : VP1 ≤ 8) (hf8 : VS2 ≤ 8) (hfw : ∀ i, NS2 i < 12) (hx1 : x1 < 8) : hh_Cl l y_Plan_priceOfOneMore u_Plan_priceOfOneMore ({ frames := 3, cells := 0, slots := 0, locals := 73 }) (dC, dI) vwCl [(cI, .int), (cJ, .long), (cZ, .boolean)] (w_P cI cJ cZ aP VP0 VP1 VP2 NP0 LP0 LP1 LP2 LP3 LP4 IP0 IP1 aS ++ w_S cI cJ cZ aS VS0 VS1 VS2 NS0 NS1 NS2 LS0 LS1 LS2 LS3 LS4 LS5 LS6 LS7 LS8 IS0 aY ++ w_Y cI cJ cZ aY VY0 LY0 LY1 LY2 IY0) sz [.ref (aP 0), .int (nI x1)] ((f_Plan_priceOfOneMore VP0 VP1 LP0 LP1 LP2 LP3 LP4 IP0 IP1 VS2 NS2 LS4 LS8 x1).1) (w_P cI cJ cZ aP VP0 VP1 VP2 NP0 LP0 LP1 LP2 LP3 ((f_Plan_priceOfOneMore VP0 VP1 LP0 LP1 LP2 LP3 LP4 IP0 IP1 VS2 NS2 LS4 LS8 x1).2.1) ((f_Plan_priceOfOneMore VP0 VP1 LP0 LP1 LP2 LP3 LP4 IP0 IP1 VS2 NS2 LS4 LS8 x1).2.2.1) ((f_Plan_priceOfOneMore VP0 VP1 LP0 LP1 LP2 LP3 LP4 IP0 IP1 VS2 NS2 LS4 LS8 x1).2.2.2) aS ++ w_S cI cJ cZ aS VS0 VS1 VS2 NS0 NS1 NS2 LS0 LS1 LS2 LS3 LS4 LS5 LS6 LS7 LS8 IS0 aY ++ w_Y cI cJ cZ aY VY0 LY0 LY1 LY2 IY0) 0 0 := by
  unfold hh_Cl
  refine Met.ofW (cc := b_Plan_priceOfOneMore) (maxL := 3) (ret := (some .long)) (by decide) rfl ?_
  intro p e s m args below meth c s₁ B hml hv
  obtain ⟨rfl, hsz, hP, hK, hD0⟩ := hv
  have hx := B.exec
  have hb := B.bytes
  have hr := B.returns
  have hts := atoms_spec (ws := u_Plan_priceOfOneMore) B.pre
  have hG : ∀ w ∈ wG, w.before ([.ref (aP 0), .int (nI x1)]).toArray s = true := fun w h => hts w (List.mem_cons_of_mem _ h)
  have hown : s.vm.findClass R_Plan = some m.cls := findClass_of_methodNamed B.named
  have hlocks := B.notSynchronized
  subst hsz
  have hD := hD0.self (sz := s.heap.size)
  generalize hAe : va_A (w_P cI cJ cZ aP VP0 VP1 VP2 NP0 LP0 LP1 LP2 LP3 LP4 IP0 IP1 aS ++ w_S cI cJ cZ aS VS0 VS1 VS2 NS0 NS1 NS2 LS0 LS1 LS2 LS3 LS4 LS5 LS6 LS7 LS8 IS0 aY ++ w_Y cI cJ cZ aY VY0 LY0 LY1 LY2 IY0) s.heap.size = A at hD ⊢
  have hA : ∀ q : Nat, s.heap.size ≤ q → A q := fun q h => by rw [← hAe]; exact Or.inr h
  have hS : va_S A s.heap s.heap [] := va_S.rf
  have hl := lv_entry ([.ref (aP 0), .int (nI x1)]) (n := 3) (Nat.le_of_ble_eq_true rfl)
  rw [lg_entry_eq]
  generalize (lg_sl ([.ref (aP 0), .int (nI x1)]) ++ List.replicate (3 - (lg_sl ([.ref (aP 0), .int (nI x1)])).length) Slot.unset).toArray = ls at hl ⊢
  have hl : lv_has ls 3 [(0, .ref (aP 0)), (1, .int (nI x1))] := hl
  generalize hR : f_Plan_priceOfOneMore VP0 VP1 LP0 LP1 LP2 LP3 LP4 IP0 IP1 VS2 NS2 LS4 LS8 x1 = r0
  obtain ⟨H, locs, hHe, hle⟩ : ∃ (H : Heap) (locs : List Loc), s.heap = H ∧ [] = locs := ⟨_, _, rfl, rfl⟩
  have hP : va_P (dC, dI) vwCl (w_P cI cJ cZ aP VP0 VP1 VP2 NP0 LP0 LP1 LP2 LP3 LP4 IP0 IP1 aS ++ w_S cI cJ cZ aS VS0 VS1 VS2 NS0 NS1 NS2 LS0 LS1 LS2 LS3 LS4 LS5 LS6 LS7 LS8 IS0 aY ++ w_Y cI cJ cZ aY VY0 LY0 LY1 LY2 IY0) H := by rw [← hHe]; exact hP
  have hS : va_S A s.heap H locs := by rw [← hHe, ← hle]; exact hS
  refine hw_start hHe hle ?_
  unfold f_Plan_priceOfOneMore at hR
  refine lv_aload_n hx hb d_Plan_priceOfOneMore_0 rfl (lv_at hl 0 rfl) ?_
  refine va_get (D := (dC, dI)) (ci := 0) (v := .ref (aS 0)) (C := R_Plan) (T := T_Plan) (N := 12) hx hb hG in_Plan hown hK hP 0 rfl rfl 0 (by decide) (hG _ m_131) (fun _ h9 => h9) rfl d_Plan_priceOfOneMore_1 ?_
  refine lv_aload_n hx hb d_Plan_priceOfOneMore_4 rfl (lv_at hl 0 rfl) ?_
  refine va_get (D := (dC, dI)) (ci := 0) (v := .ref (aS 0)) (C := R_Plan) (T := T_Plan) (N := 12) hx hb hG in_Plan hown hK hP 0 rfl rfl 0 (by decide) (hG _ m_131) (fun _ h9 => h9) rfl d_Plan_priceOfOneMore_5 ?_
  refine va_get (D := (dC, dI)) (ci := 2) (v := .ref (aS 9)) (C := R_Site) (T := T_Site) (N := 17) hx hb hG in_Site hown hK hP 9 rfl rfl 12 (by decide) (hG _ m_80) (fun _ h9 => h9) rfl d_Plan_priceOfOneMore_8 ?_
  refine lv_iload_n hx hb d_Plan_priceOfOneMore_11 rfl (lv_at hl 1 rfl) ?_
  refine hw_nald (g := NS2) hx hb hK hP 18 0 rfl rfl (by decide) (by omega) d_Plan_priceOfOneMore_12 ?_
  have hb12 := hfw x1
  obtain ⟨y13, hy13, hR⟩ := hw_bind hR
  have hM := c_Site_weekSpare l dC dI cI cJ cZ H.size aS VS0 VS1 VS2 NS0 NS1 NS2 LS0 LS1 LS2 LS3 LS4 LS5 LS6 LS7 LS8 IS0 aY VY0 LY0 LY1 LY2 IY0 (NS2 x1) (by first | assumption | omega) (by first | assumption | omega) (by first | assumption | omega)
  rw [hy13] at hM
  refine hw_callVl (As := [.int (nI (NS2 x1))]) (rest := []) (wr := w_P cI cJ cZ aP VP0 VP1 VP2 NP0 LP0 LP1 LP2 LP3 LP4 IP0 IP1 aS) ⟨hx, hb, hml, hown, hG⟩ hM (hw_cwV 1 hG m_326 m_327 m_328 m_2 m_329 rfl rfl (by decide +kernel) ⟨Nat.le_of_ble_eq_true rfl, Nat.le_of_ble_eq_true rfl⟩) hK hP hD hS hA [9, 10, 11, 12, 13, 14, 15, 16, 17, 18, 19, 20, 21, 22, 23, 24, 25, 26, 27] [0, 1, 2, 3, 4, 5, 6, 7, 8] rfl rfl (by decide) (by decide) (by decide) (hw_recv hK hP 9 rfl rfl) rfl hl.1 rfl (Nat.le_of_ble_eq_true rfl) d_Plan_priceOfOneMore_13 ⟨Nat.le_of_ble_eq_true rfl, Nat.le_of_ble_eq_true rfl⟩ (fun H locs hP hD hS => ?_)
  have hP : va_P (dC, dI) vwCl (w_P cI cJ cZ aP VP0 VP1 VP2 NP0 LP0 LP1 LP2 LP3 LP4 IP0 IP1 aS ++ w_S cI cJ cZ aS VS0 VS1 VS2 NS0 NS1 NS2 LS0 LS1 LS2 LS3 LS4 LS5 LS6 LS7 LS8 IS0 aY ++ w_Y cI cJ cZ aY VY0 LY0 LY1 LY2 IY0) H := hP
  have hD : va_D A (w_P cI cJ cZ aP VP0 VP1 VP2 NP0 LP0 LP1 LP2 LP3 LP4 IP0 IP1 aS ++ w_S cI cJ cZ aS VS0 VS1 VS2 NS0 NS1 NS2 LS0 LS1 LS2 LS3 LS4 LS5 LS6 LS7 LS8 IS0 aY ++ w_Y cI cJ cZ aY VY0 LY0 LY1 LY2 IY0) := hD
  refine lv_lconst (v := 1) hx hb d_Plan_priceOfOneMore_16 (by decide) ?_
  refine hw_lcmp_ge (tgt := 25) hx hb d_Plan_priceOfOneMore_17 d_Plan_priceOfOneMore_18 (by decide) (fun c17 => ?_) (fun c17 => ?_)
  · replace hR := (if_pos c17).symm.trans hR
    refine lv_aload_n hx hb d_Plan_priceOfOneMore_25 rfl (lv_at hl 0 rfl) ?_
    refine lv_bipush (v := nI 12) hx hb d_Plan_priceOfOneMore_26 (by decide) ?_
    refine lv_iload_n hx hb d_Plan_priceOfOneMore_28 rfl (lv_at hl 1 rfl) ?_
    refine hw_iadd hx hb d_Plan_priceOfOneMore_29 ?_
    obtain ⟨y30, hy30, hR⟩ := hw_bind hR
    have hM := c_Plan_search l dC dI cI cJ cZ H.size aP VP0 VP1 VP2 NP0 LP0 LP1 LP2 LP3 LP4 IP0 IP1 aS VS0 VS1 VS2 NS0 NS1 NS2 LS0 LS1 LS2 LS3 LS4 LS5 LS6 LS7 LS8 IS0 aY VY0 LY0 LY1 LY2 IY0 (12 + x1) (by first | assumption | omega) (by first | assumption | omega) (by first | assumption | omega)
    rw [hy30] at hM
    refine hw_callVi (As := [.int (nI (12 + x1))]) (rest := []) (wr := ([] : va_W)) ⟨hx, hb, hml, hown, hG⟩ hM (hw_cwV 1 hG m_331 m_333 mp_0 m_5 m_334 rfl rfl (by decide +kernel) ⟨Nat.le_of_ble_eq_true rfl, Nat.le_of_ble_eq_true rfl⟩) hK hP hD hS hA [0, 1, 2, 3, 4, 5, 6, 7, 8, 9, 10, 11, 12, 13, 14, 15, 16, 17, 18, 19, 20, 21, 22, 23, 24, 25, 26, 27] [] rfl rfl (by decide) (by decide) (by decide) (hw_recv hK hP 0 rfl rfl) rfl hl.1 rfl (Nat.le_of_ble_eq_true rfl) d_Plan_priceOfOneMore_30 ⟨Nat.le_of_ble_eq_true rfl, Nat.le_of_ble_eq_true rfl⟩ (fun H locs hP hD hS => ?_)
    have hP : va_P (dC, dI) vwCl (w_P cI cJ cZ aP VP0 VP1 VP2 NP0 LP0 LP1 LP2 LP3 y30.2.1 y30.2.2.1 y30.2.2.2 aS ++ w_S cI cJ cZ aS VS0 VS1 VS2 NS0 NS1 NS2 LS0 LS1 LS2 LS3 LS4 LS5 LS6 LS7 LS8 IS0 aY ++ w_Y cI cJ cZ aY VY0 LY0 LY1 LY2 IY0) H := hP
    have hD : va_D A (w_P cI cJ cZ aP VP0 VP1 VP2 NP0 LP0 LP1 LP2 LP3 y30.2.1 y30.2.2.1 y30.2.2.2 aS ++ w_S cI cJ cZ aS VS0 VS1 VS2 NS0 NS1 NS2 LS0 LS1 LS2 LS3 LS4 LS5 LS6 LS7 LS8 IS0 aY ++ w_Y cI cJ cZ aY VY0 LY0 LY1 LY2 IY0) := hD
    have hfo30 := f_Plan_search_found LP0 LP1 LP2 LP3 LP4 IP0 IP1 (12 + x1) hs12 hb8
    rw [hy30] at hfo30
    have hlt30 := hp_found_lt hfo30
    refine lv_istore_n (lv' := [(2, .int y30.1), (0, .ref (aP 0)), (1, .int (nI x1))]) hx hb d_Plan_priceOfOneMore_33 rfl hl (by decide) rfl (fun ls hl => ?_)
    refine lv_iload_n hx hb d_Plan_priceOfOneMore_34 rfl (lv_at hl 0 rfl) ?_
    refine lv_if_ge (tgt := 44) hx hb d_Plan_priceOfOneMore_35 (by decide) (fun c35 => ?_) (fun c35 => ?_)
    · replace hR := (if_pos c35).symm.trans hR
      have en44_2 : nI (y30.1.toNatClampNeg) = y30.1 := hw_nat0 (by assumption)
      have hl : lv_has ls 3 [(2, .int (nI y30.1.toNatClampNeg)), (0, .ref (aP 0)), (1, .int (nI x1))] := by rw [en44_2]; exact hl
      refine lv_aload_n hx hb d_Plan_priceOfOneMore_44 rfl (lv_at hl 1 rfl) ?_
      refine va_get (D := (dC, dI)) (ci := 0) (v := .ref (aP 4)) (C := R_Plan) (T := T_Plan) (N := 12) hx hb hG in_Plan hown hK hP 0 rfl rfl 6 (by decide) (hG _ m_137) (fun _ h9 => h9) rfl d_Plan_priceOfOneMore_45 ?_
      refine lv_iload_n hx hb d_Plan_priceOfOneMore_48 rfl (lv_at hl 2 rfl) ?_
      refine hw_lald (f := LP3) hx hb hK hP 4 1 rfl rfl (by decide) (by omega) d_Plan_priceOfOneMore_49 ?_
      refine lv_aload_n hx hb d_Plan_priceOfOneMore_50 rfl (lv_at hl 1 rfl) ?_
      refine va_get (D := (dC, dI)) (ci := 0) (v := .ref (aP 5)) (C := R_Plan) (T := T_Plan) (N := 12) hx hb hG in_Plan hown hK hP 0 rfl rfl 7 (by decide) (hG _ m_138) (fun _ h9 => h9) rfl d_Plan_priceOfOneMore_51 ?_
      refine lv_iload_n hx hb d_Plan_priceOfOneMore_54 rfl (lv_at hl 0 rfl) ?_
      refine hw_lald (f := y30.2.1) hx hb hK hP 5 1 rfl rfl (by decide) (by omega) d_Plan_priceOfOneMore_55 ?_
      refine lv_ldc2 (v := 32) hx hb hown (hG _ m_348) d_Plan_priceOfOneMore_56 ?_
      refine lv_ldiv hx hb d_Plan_priceOfOneMore_59 (by decide) ?_
      refine lv_ladd hx hb d_Plan_priceOfOneMore_60 ?_
      subst hR
      exact W.lret (v := (LP3 x1) + ((y30.2.1 y30.1.toNatClampNeg) / 32)) hx hb hr (fun t ht hW => ⟨⟨_, (), rfl, rfl, by rw [ht]; exact hP, va_K.moved hW.alike hK, hD⟩, hS.F ht⟩) hS.2.2 d_Plan_priceOfOneMore_61
    · replace hR := (if_neg c35).symm.trans hR
      refine lv_ldc2 (v := (-1)) hx hb hown (hG _ m_330) d_Plan_priceOfOneMore_38 ?_
      refine lv_goto (tgt := 61) hx hb d_Plan_priceOfOneMore_41 (by decide) ?_
      subst hR
      exact W.lret (v := (-1)) hx hb hr (fun t ht hW => ⟨⟨_, (), rfl, rfl, by rw [ht]; exact hP, va_K.moved hW.alike hK, hD⟩, hS.F ht⟩) hS.2.2 d_Plan_priceOfOneMore_61
  · replace hR := (if_neg c17).symm.trans hR
    refine lv_ldc2 (v := (-1)) hx hb hown (hG _ m_330) d_Plan_priceOfOneMore_21 ?_
    subst hR
    exact W.lret (v := (-1)) hx hb hr (fun t ht hW => ⟨⟨_, (), rfl, rfl, by rw [ht]; exact hP, va_K.moved hW.alike hK, hD⟩, hS.F ht⟩) hS.2.2 d_Plan_priceOfOneMore_24
