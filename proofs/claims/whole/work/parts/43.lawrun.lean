abbrev b_Law_run : ByteArray := method_3_code
def y_Law_run : MethodName := ⟨R_Law, "run", "(LHaulFlows;I[J)I"⟩
def u_Law_run : List Cond := Cond.codeWith y_Law_run b_Law_run 4 (some .int) [(0, 9, 12, 13)] :: wG
theorem d_Law_run_0 : decode b_Law_run 0 = .ok (.aload_n 2, 1) := by decide +kernel
theorem d_Law_run_1 : decode b_Law_run 1 = .ok (.iconst 0, 1) := by decide +kernel
theorem d_Law_run_2 : decode b_Law_run 2 = .ok (.aload_n 0, 1) := by decide +kernel
theorem d_Law_run_3 : decode b_Law_run 3 = .ok (.iload_n 1, 1) := by decide +kernel
theorem d_Law_run_4 : decode b_Law_run 4 = .ok (.invokevirtual 7, 3) := by decide +kernel
theorem d_Law_run_7 : decode b_Law_run 7 = .ok (.i2l, 1) := by decide +kernel
theorem d_Law_run_8 : decode b_Law_run 8 = .ok (.lastore, 1) := by decide +kernel
theorem d_Law_run_9 : decode b_Law_run 9 = .ok (.goto 6, 3) := by decide +kernel
theorem d_Law_run_12 : decode b_Law_run 12 = .ok (.astore_n 3, 1) := by decide +kernel
theorem d_Law_run_13 : decode b_Law_run 13 = .ok (.iconst 1, 1) := by decide +kernel
theorem d_Law_run_14 : decode b_Law_run 14 = .ok (.ireturn, 1) := by decide +kernel
theorem d_Law_run_15 : decode b_Law_run 15 = .ok (.iconst 0, 1) := by decide +kernel
theorem d_Law_run_16 : decode b_Law_run 16 = .ok (.ireturn, 1) := by decide +kernel
def w_O (cI cJ cZ : ClassId) (a : Nat → Nat) (L0 : Nat → Int64) : va_W :=
  [(a 0, .inl (cJ, 1, .inr (.inl L0)))]
def f_Law_run (VH0 : Nat) (VS0 : Nat) (VS1 : Nat) (VS2 : Nat) (NS0 : Nat → Nat) (NS1 : Nat → Nat) (NS2 : Nat → Nat) (LS0 : Nat → Int64) (LS1 : Nat → Int64) (LS2 : Nat → Int64) (LS3 : Nat → Int64) (LS4 : Nat → Int64) (LS5 : Nat → Int64) (LS6 : Nat → Int64) (LS7 : Nat → Int64) (LS8 : Nat → Int64) (IS0 : Nat → Int32) (VY0 : Nat) (LY0 : Nat → Int64) (LY1 : Nat → Int64) (LY2 : Nat → Int64) (IY0 : Nat → Int32) (VP0 : Nat) (VP1 : Nat) (VP2 : Nat) (NP0 : Nat → Nat) (LP0 : Nat → Int64) (LP1 : Nat → Int64) (LP2 : Nat → Int64) (LP3 : Nat → Int64) (LP4 : Nat → Int64) (IP0 : Nat → Int32) (IP1 : Nat → Int32) (VT0 : Nat) (NT0 : Nat → Nat) (NT1 : Nat → Nat) (LT0 : Nat → Int64) (IT0 : Nat → Int32) (LO0 : Nat → Int64) (x1 : Int32) : Nat × (Nat) × (Nat) × (Nat) × (Nat) × (Nat → Nat) × (Nat → Int64) × (Nat → Int64) × (Nat → Int64) × (Nat → Int64) × (Nat → Int64) × (Nat → Int32) × (Nat → Int32) × (Nat) × (Nat → Nat) × (Nat → Nat) × (Nat → Int64) × (Nat → Int32) × (Nat → Int64) :=
  hh_bind (f_HaulFlows_run VH0 VS0 VS1 VS2 NS0 NS1 NS2 LS0 LS1 LS2 LS3 LS4 LS5 LS6 LS7 LS8 IS0 VY0 LY0 LY1 LY2 IY0 VP0 VP1 VP2 NP0 LP0 LP1 LP2 LP3 LP4 IP0 IP1 VT0 NT0 NT1 LT0 IT0 x1) (fun y4 => (0, y4.2.1, y4.2.2.1, y4.2.2.2.1, y4.2.2.2.2.1, y4.2.2.2.2.2.1, y4.2.2.2.2.2.2.1, y4.2.2.2.2.2.2.2.1, y4.2.2.2.2.2.2.2.2.1, y4.2.2.2.2.2.2.2.2.2.1, y4.2.2.2.2.2.2.2.2.2.2.1, y4.2.2.2.2.2.2.2.2.2.2.2.1, y4.2.2.2.2.2.2.2.2.2.2.2.2.1, y4.2.2.2.2.2.2.2.2.2.2.2.2.2.1, y4.2.2.2.2.2.2.2.2.2.2.2.2.2.2.1, y4.2.2.2.2.2.2.2.2.2.2.2.2.2.2.2.1, y4.2.2.2.2.2.2.2.2.2.2.2.2.2.2.2.2.1, y4.2.2.2.2.2.2.2.2.2.2.2.2.2.2.2.2.2, vp_updL LO0 0 ((nI y4.1).toInt64)))
set_option maxHeartbeats 4000000 in
set_option maxRecDepth 100000 in
theorem c_Law_run (l : Launch) (dC : Nat → ClassId) (dI : Nat → Nat → Nat) (cI cJ cZ : ClassId) (sz : Nat) (aH : Nat → Nat) (VH0 : Nat) (aS : Nat → Nat) (VS0 : Nat) (VS1 : Nat) (VS2 : Nat) (NS0 : Nat → Nat) (NS1 : Nat → Nat) (NS2 : Nat → Nat) (LS0 : Nat → Int64) (LS1 : Nat → Int64) (LS2 : Nat → Int64) (LS3 : Nat → Int64) (LS4 : Nat → Int64) (LS5 : Nat → Int64) (LS6 : Nat → Int64) (LS7 : Nat → Int64) (LS8 : Nat → Int64) (IS0 : Nat → Int32) (aY : Nat → Nat) (VY0 : Nat) (LY0 : Nat → Int64) (LY1 : Nat → Int64) (LY2 : Nat → Int64) (IY0 : Nat → Int32) (aP : Nat → Nat) (VP0 : Nat) (VP1 : Nat) (VP2 : Nat) (NP0 : Nat → Nat) (LP0 : Nat → Int64) (LP1 : Nat → Int64) (LP2 : Nat → Int64) (LP3 : Nat → Int64) (LP4 : Nat → Int64) (IP0 : Nat → Int32) (IP1 : Nat → Int32) (aQ : Nat → Nat) (VQ0 : Nat) (VQ1 : Nat) (VQ2 : Nat) (NQ0 : Nat → Nat) (LQ0 : Nat → Int64) (LQ1 : Nat → Int64) (LQ2 : Nat → Int64) (LQ3 : Nat → Int64) (LQ4 : Nat → Int64) (IQ0 : Nat → Int32) (IQ1 : Nat → Int32) (aT : Nat → Nat) (VT0 : Nat) (NT0 : Nat → Nat) (NT1 : Nat → Nat) (LT0 : Nat → Int64) (IT0 : Nat → Int32) (aO : Nat → Nat) (LO0 : Nat → Int64) (x1 : Int32) (hc8 : VS0 ≤ 8) (hp4 : VS1 ≤ 4) (hf8 : VS2 ≤ 8) (hy6 : VY0 ≤ 6) (hk4 : ∀ i, NS0 i < 4) (hcw : ∀ i, NS1 i < 12) (hfw : ∀ i, NS2 i < 12) (hq : ∀ i, NP0 i < 21) (htq : ∀ i, NT1 i < 34) (hst : VH0 ≤ 2) (hpl : VH0 = 1 → VP0 = VS0 + VS1 ∧ VP1 = VS2) (hsf : VT0 ≤ 8) (hsteps : nI ((VS0 + VS1) * VS2) ≤ x1) : hh_Ci l y_Law_run u_Law_run ({ frames := 7, cells := 0, slots := 0, locals := 168 }) (dC, dI) vwCl [(cI, .int), (cJ, .long), (cZ, .boolean)] (w_H cI cJ cZ aH VH0 aS aP aQ aT ++ w_S cI cJ cZ aS VS0 VS1 VS2 NS0 NS1 NS2 LS0 LS1 LS2 LS3 LS4 LS5 LS6 LS7 LS8 IS0 aY ++ w_Y cI cJ cZ aY VY0 LY0 LY1 LY2 IY0 ++ w_P cI cJ cZ aP VP0 VP1 VP2 NP0 LP0 LP1 LP2 LP3 LP4 IP0 IP1 aS ++ w_P cI cJ cZ aQ VQ0 VQ1 VQ2 NQ0 LQ0 LQ1 LQ2 LQ3 LQ4 IQ0 IQ1 aS ++ w_T cI cJ cZ aT VT0 NT0 NT1 LT0 IT0 aS ++ w_O cI cJ cZ aO LO0) sz [.ref (aH 0), .int x1, .ref (aO 0)] (nI ((f_Law_run VH0 VS0 VS1 VS2 NS0 NS1 NS2 LS0 LS1 LS2 LS3 LS4 LS5 LS6 LS7 LS8 IS0 VY0 LY0 LY1 LY2 IY0 VP0 VP1 VP2 NP0 LP0 LP1 LP2 LP3 LP4 IP0 IP1 VT0 NT0 NT1 LT0 IT0 LO0 x1).1)) (w_H cI cJ cZ aH ((f_Law_run VH0 VS0 VS1 VS2 NS0 NS1 NS2 LS0 LS1 LS2 LS3 LS4 LS5 LS6 LS7 LS8 IS0 VY0 LY0 LY1 LY2 IY0 VP0 VP1 VP2 NP0 LP0 LP1 LP2 LP3 LP4 IP0 IP1 VT0 NT0 NT1 LT0 IT0 LO0 x1).2.1) aS aP aQ aT ++ w_S cI cJ cZ aS VS0 VS1 VS2 NS0 NS1 NS2 LS0 LS1 LS2 LS3 LS4 LS5 LS6 LS7 LS8 IS0 aY ++ w_Y cI cJ cZ aY VY0 LY0 LY1 LY2 IY0 ++ w_P cI cJ cZ aP ((f_Law_run VH0 VS0 VS1 VS2 NS0 NS1 NS2 LS0 LS1 LS2 LS3 LS4 LS5 LS6 LS7 LS8 IS0 VY0 LY0 LY1 LY2 IY0 VP0 VP1 VP2 NP0 LP0 LP1 LP2 LP3 LP4 IP0 IP1 VT0 NT0 NT1 LT0 IT0 LO0 x1).2.2.1) ((f_Law_run VH0 VS0 VS1 VS2 NS0 NS1 NS2 LS0 LS1 LS2 LS3 LS4 LS5 LS6 LS7 LS8 IS0 VY0 LY0 LY1 LY2 IY0 VP0 VP1 VP2 NP0 LP0 LP1 LP2 LP3 LP4 IP0 IP1 VT0 NT0 NT1 LT0 IT0 LO0 x1).2.2.2.1) ((f_Law_run VH0 VS0 VS1 VS2 NS0 NS1 NS2 LS0 LS1 LS2 LS3 LS4 LS5 LS6 LS7 LS8 IS0 VY0 LY0 LY1 LY2 IY0 VP0 VP1 VP2 NP0 LP0 LP1 LP2 LP3 LP4 IP0 IP1 VT0 NT0 NT1 LT0 IT0 LO0 x1).2.2.2.2.1) ((f_Law_run VH0 VS0 VS1 VS2 NS0 NS1 NS2 LS0 LS1 LS2 LS3 LS4 LS5 LS6 LS7 LS8 IS0 VY0 LY0 LY1 LY2 IY0 VP0 VP1 VP2 NP0 LP0 LP1 LP2 LP3 LP4 IP0 IP1 VT0 NT0 NT1 LT0 IT0 LO0 x1).2.2.2.2.2.1) ((f_Law_run VH0 VS0 VS1 VS2 NS0 NS1 NS2 LS0 LS1 LS2 LS3 LS4 LS5 LS6 LS7 LS8 IS0 VY0 LY0 LY1 LY2 IY0 VP0 VP1 VP2 NP0 LP0 LP1 LP2 LP3 LP4 IP0 IP1 VT0 NT0 NT1 LT0 IT0 LO0 x1).2.2.2.2.2.2.1) ((f_Law_run VH0 VS0 VS1 VS2 NS0 NS1 NS2 LS0 LS1 LS2 LS3 LS4 LS5 LS6 LS7 LS8 IS0 VY0 LY0 LY1 LY2 IY0 VP0 VP1 VP2 NP0 LP0 LP1 LP2 LP3 LP4 IP0 IP1 VT0 NT0 NT1 LT0 IT0 LO0 x1).2.2.2.2.2.2.2.1) ((f_Law_run VH0 VS0 VS1 VS2 NS0 NS1 NS2 LS0 LS1 LS2 LS3 LS4 LS5 LS6 LS7 LS8 IS0 VY0 LY0 LY1 LY2 IY0 VP0 VP1 VP2 NP0 LP0 LP1 LP2 LP3 LP4 IP0 IP1 VT0 NT0 NT1 LT0 IT0 LO0 x1).2.2.2.2.2.2.2.2.1) ((f_Law_run VH0 VS0 VS1 VS2 NS0 NS1 NS2 LS0 LS1 LS2 LS3 LS4 LS5 LS6 LS7 LS8 IS0 VY0 LY0 LY1 LY2 IY0 VP0 VP1 VP2 NP0 LP0 LP1 LP2 LP3 LP4 IP0 IP1 VT0 NT0 NT1 LT0 IT0 LO0 x1).2.2.2.2.2.2.2.2.2.1) ((f_Law_run VH0 VS0 VS1 VS2 NS0 NS1 NS2 LS0 LS1 LS2 LS3 LS4 LS5 LS6 LS7 LS8 IS0 VY0 LY0 LY1 LY2 IY0 VP0 VP1 VP2 NP0 LP0 LP1 LP2 LP3 LP4 IP0 IP1 VT0 NT0 NT1 LT0 IT0 LO0 x1).2.2.2.2.2.2.2.2.2.2.1) ((f_Law_run VH0 VS0 VS1 VS2 NS0 NS1 NS2 LS0 LS1 LS2 LS3 LS4 LS5 LS6 LS7 LS8 IS0 VY0 LY0 LY1 LY2 IY0 VP0 VP1 VP2 NP0 LP0 LP1 LP2 LP3 LP4 IP0 IP1 VT0 NT0 NT1 LT0 IT0 LO0 x1).2.2.2.2.2.2.2.2.2.2.2.1) ((f_Law_run VH0 VS0 VS1 VS2 NS0 NS1 NS2 LS0 LS1 LS2 LS3 LS4 LS5 LS6 LS7 LS8 IS0 VY0 LY0 LY1 LY2 IY0 VP0 VP1 VP2 NP0 LP0 LP1 LP2 LP3 LP4 IP0 IP1 VT0 NT0 NT1 LT0 IT0 LO0 x1).2.2.2.2.2.2.2.2.2.2.2.2.1) aS ++ w_P cI cJ cZ aQ VQ0 VQ1 VQ2 NQ0 LQ0 LQ1 LQ2 LQ3 LQ4 IQ0 IQ1 aS ++ w_T cI cJ cZ aT ((f_Law_run VH0 VS0 VS1 VS2 NS0 NS1 NS2 LS0 LS1 LS2 LS3 LS4 LS5 LS6 LS7 LS8 IS0 VY0 LY0 LY1 LY2 IY0 VP0 VP1 VP2 NP0 LP0 LP1 LP2 LP3 LP4 IP0 IP1 VT0 NT0 NT1 LT0 IT0 LO0 x1).2.2.2.2.2.2.2.2.2.2.2.2.2.1) ((f_Law_run VH0 VS0 VS1 VS2 NS0 NS1 NS2 LS0 LS1 LS2 LS3 LS4 LS5 LS6 LS7 LS8 IS0 VY0 LY0 LY1 LY2 IY0 VP0 VP1 VP2 NP0 LP0 LP1 LP2 LP3 LP4 IP0 IP1 VT0 NT0 NT1 LT0 IT0 LO0 x1).2.2.2.2.2.2.2.2.2.2.2.2.2.2.1) ((f_Law_run VH0 VS0 VS1 VS2 NS0 NS1 NS2 LS0 LS1 LS2 LS3 LS4 LS5 LS6 LS7 LS8 IS0 VY0 LY0 LY1 LY2 IY0 VP0 VP1 VP2 NP0 LP0 LP1 LP2 LP3 LP4 IP0 IP1 VT0 NT0 NT1 LT0 IT0 LO0 x1).2.2.2.2.2.2.2.2.2.2.2.2.2.2.2.1) ((f_Law_run VH0 VS0 VS1 VS2 NS0 NS1 NS2 LS0 LS1 LS2 LS3 LS4 LS5 LS6 LS7 LS8 IS0 VY0 LY0 LY1 LY2 IY0 VP0 VP1 VP2 NP0 LP0 LP1 LP2 LP3 LP4 IP0 IP1 VT0 NT0 NT1 LT0 IT0 LO0 x1).2.2.2.2.2.2.2.2.2.2.2.2.2.2.2.2.1) ((f_Law_run VH0 VS0 VS1 VS2 NS0 NS1 NS2 LS0 LS1 LS2 LS3 LS4 LS5 LS6 LS7 LS8 IS0 VY0 LY0 LY1 LY2 IY0 VP0 VP1 VP2 NP0 LP0 LP1 LP2 LP3 LP4 IP0 IP1 VT0 NT0 NT1 LT0 IT0 LO0 x1).2.2.2.2.2.2.2.2.2.2.2.2.2.2.2.2.2.1) aS ++ w_O cI cJ cZ aO ((f_Law_run VH0 VS0 VS1 VS2 NS0 NS1 NS2 LS0 LS1 LS2 LS3 LS4 LS5 LS6 LS7 LS8 IS0 VY0 LY0 LY1 LY2 IY0 VP0 VP1 VP2 NP0 LP0 LP1 LP2 LP3 LP4 IP0 IP1 VT0 NT0 NT1 LT0 IT0 LO0 x1).2.2.2.2.2.2.2.2.2.2.2.2.2.2.2.2.2.2)) 0 0 := by
  unfold hh_Ci
  refine va_MetW (hh := [(0, 9, 12, 13)]) (cc := b_Law_run) (maxL := 4) (ret := (some .int)) (by decide) rfl ?_
  intro p e s m args below meth c s₁ B hml hv
  obtain ⟨rfl, hsz, hP, hK, hD0⟩ := hv
  have hx := B.exec
  have hb := B.bytes
  have hr := B.returns
  have hts := atoms_spec (ws := u_Law_run) B.pre
  have hG : ∀ w ∈ wG, w.before ([.ref (aH 0), .int x1, .ref (aO 0)]).toArray s = true := fun w h => hts w (List.mem_cons_of_mem _ h)
  have hown : s.vm.findClass R_Law = some m.cls := findClass_of_methodNamed B.named
  have hlocks := B.notSynchronized
  subst hsz
  have hD := hD0.self (sz := s.heap.size)
  generalize hAe : va_A (w_H cI cJ cZ aH VH0 aS aP aQ aT ++ w_S cI cJ cZ aS VS0 VS1 VS2 NS0 NS1 NS2 LS0 LS1 LS2 LS3 LS4 LS5 LS6 LS7 LS8 IS0 aY ++ w_Y cI cJ cZ aY VY0 LY0 LY1 LY2 IY0 ++ w_P cI cJ cZ aP VP0 VP1 VP2 NP0 LP0 LP1 LP2 LP3 LP4 IP0 IP1 aS ++ w_P cI cJ cZ aQ VQ0 VQ1 VQ2 NQ0 LQ0 LQ1 LQ2 LQ3 LQ4 IQ0 IQ1 aS ++ w_T cI cJ cZ aT VT0 NT0 NT1 LT0 IT0 aS ++ w_O cI cJ cZ aO LO0) s.heap.size = A at hD ⊢
  have hA : ∀ q : Nat, s.heap.size ≤ q → A q := fun q h => by rw [← hAe]; exact Or.inr h
  have hS : va_S A s.heap s.heap [] := va_S.rf
  have hl := lv_entry ([.ref (aH 0), .int x1, .ref (aO 0)]) (n := 4) (Nat.le_of_ble_eq_true rfl)
  rw [lg_entry_eq]
  generalize (lg_sl ([.ref (aH 0), .int x1, .ref (aO 0)]) ++ List.replicate (4 - (lg_sl ([.ref (aH 0), .int x1, .ref (aO 0)])).length) Slot.unset).toArray = ls at hl ⊢
  have hl : lv_has ls 4 [(0, .ref (aH 0)), (1, .int x1), (2, .ref (aO 0))] := hl
  generalize hR : f_Law_run VH0 VS0 VS1 VS2 NS0 NS1 NS2 LS0 LS1 LS2 LS3 LS4 LS5 LS6 LS7 LS8 IS0 VY0 LY0 LY1 LY2 IY0 VP0 VP1 VP2 NP0 LP0 LP1 LP2 LP3 LP4 IP0 IP1 VT0 NT0 NT1 LT0 IT0 LO0 x1 = r0
  obtain ⟨H, locs, hHe, hle⟩ : ∃ (H : Heap) (locs : List Loc), s.heap = H ∧ [] = locs := ⟨_, _, rfl, rfl⟩
  have hP : va_P (dC, dI) vwCl (w_H cI cJ cZ aH VH0 aS aP aQ aT ++ w_S cI cJ cZ aS VS0 VS1 VS2 NS0 NS1 NS2 LS0 LS1 LS2 LS3 LS4 LS5 LS6 LS7 LS8 IS0 aY ++ w_Y cI cJ cZ aY VY0 LY0 LY1 LY2 IY0 ++ w_P cI cJ cZ aP VP0 VP1 VP2 NP0 LP0 LP1 LP2 LP3 LP4 IP0 IP1 aS ++ w_P cI cJ cZ aQ VQ0 VQ1 VQ2 NQ0 LQ0 LQ1 LQ2 LQ3 LQ4 IQ0 IQ1 aS ++ w_T cI cJ cZ aT VT0 NT0 NT1 LT0 IT0 aS ++ w_O cI cJ cZ aO LO0) H := by rw [← hHe]; exact hP
  have hS : va_S A s.heap H locs := by rw [← hHe, ← hle]; exact hS
  refine hw_start hHe hle ?_
  unfold f_Law_run at hR
  refine lv_aload_n hx hb d_Law_run_0 rfl (lv_at hl 2 rfl) ?_
  refine lv_iconst (v := nI 0) hx hb d_Law_run_1 (by decide) ?_
  refine lv_aload_n hx hb d_Law_run_2 rfl (lv_at hl 0 rfl) ?_
  refine lv_iload_n hx hb d_Law_run_3 rfl (lv_at hl 1 rfl) ?_
  obtain ⟨y4, hy4, hR⟩ := hw_bind hR
  have hM := c_HaulFlows_run l dC dI cI cJ cZ H.size aH VH0 aS VS0 VS1 VS2 NS0 NS1 NS2 LS0 LS1 LS2 LS3 LS4 LS5 LS6 LS7 LS8 IS0 aY VY0 LY0 LY1 LY2 IY0 aP VP0 VP1 VP2 NP0 LP0 LP1 LP2 LP3 LP4 IP0 IP1 aQ VQ0 VQ1 VQ2 NQ0 LQ0 LQ1 LQ2 LQ3 LQ4 IQ0 IQ1 aT VT0 NT0 NT1 LT0 IT0 x1 (by first | assumption | omega) (by first | assumption | omega) (by first | assumption | omega) (by first | assumption | omega) (by first | assumption | omega) (by first | assumption | omega) (by first | assumption | omega) (by first | assumption | omega) (by first | assumption | omega) (by first | assumption | omega) (by first | assumption | omega) (by first | assumption | omega) (by first | assumption | omega)
  rw [hy4] at hM
  refine hw_callVi (As := [.int x1]) (rest := [.int (nI 0), .ref (aO 0)]) (wr := w_O cI cJ cZ aO LO0) ⟨hx, hb, hml, hown, hG⟩ hM (hw_cwV 1 hG m_469 m_470 m_471 m_1 m_472 rfl rfl (by decide +kernel) ⟨Nat.le_of_ble_eq_true rfl, Nat.le_of_ble_eq_true rfl⟩) hK hP hD hS hA [0, 1, 2, 3, 4, 5, 6, 7, 8, 9, 10, 11, 12, 13, 14, 15, 16, 17, 18, 19, 20, 21, 22, 23, 24, 25, 26, 27, 28, 29, 30, 31, 32, 33, 34, 35, 36, 37, 38, 39, 40, 41, 42] [43] rfl rfl (by decide) (by decide) (by decide) (hw_recv hK hP 0 rfl rfl) rfl hl.1 rfl (Nat.le_of_ble_eq_true rfl) d_Law_run_4 ⟨Nat.le_of_ble_eq_true rfl, Nat.le_of_ble_eq_true rfl⟩ (fun H locs hP hD hS => ?_)
  have hP : va_P (dC, dI) vwCl (w_H cI cJ cZ aH y4.2.1 aS aP aQ aT ++ w_S cI cJ cZ aS VS0 VS1 VS2 NS0 NS1 NS2 LS0 LS1 LS2 LS3 LS4 LS5 LS6 LS7 LS8 IS0 aY ++ w_Y cI cJ cZ aY VY0 LY0 LY1 LY2 IY0 ++ w_P cI cJ cZ aP y4.2.2.1 y4.2.2.2.1 y4.2.2.2.2.1 y4.2.2.2.2.2.1 y4.2.2.2.2.2.2.1 y4.2.2.2.2.2.2.2.1 y4.2.2.2.2.2.2.2.2.1 y4.2.2.2.2.2.2.2.2.2.1 y4.2.2.2.2.2.2.2.2.2.2.1 y4.2.2.2.2.2.2.2.2.2.2.2.1 y4.2.2.2.2.2.2.2.2.2.2.2.2.1 aS ++ w_P cI cJ cZ aQ VQ0 VQ1 VQ2 NQ0 LQ0 LQ1 LQ2 LQ3 LQ4 IQ0 IQ1 aS ++ w_T cI cJ cZ aT y4.2.2.2.2.2.2.2.2.2.2.2.2.2.1 y4.2.2.2.2.2.2.2.2.2.2.2.2.2.2.1 y4.2.2.2.2.2.2.2.2.2.2.2.2.2.2.2.1 y4.2.2.2.2.2.2.2.2.2.2.2.2.2.2.2.2.1 y4.2.2.2.2.2.2.2.2.2.2.2.2.2.2.2.2.2 aS ++ w_O cI cJ cZ aO LO0) H := hP.sub [1, 2, 3, 4, 5, 6, 7, 8, 9, 10, 11, 12, 13, 14, 15, 16, 17, 18, 19, 20, 21, 22, 23, 24, 25, 26, 27, 28, 29, 30, 31, 32, 33, 34, 35, 36, 37, 38, 39, 40, 41, 42, 43, 0] rfl
  have hD : va_D A (w_H cI cJ cZ aH y4.2.1 aS aP aQ aT ++ w_S cI cJ cZ aS VS0 VS1 VS2 NS0 NS1 NS2 LS0 LS1 LS2 LS3 LS4 LS5 LS6 LS7 LS8 IS0 aY ++ w_Y cI cJ cZ aY VY0 LY0 LY1 LY2 IY0 ++ w_P cI cJ cZ aP y4.2.2.1 y4.2.2.2.1 y4.2.2.2.2.1 y4.2.2.2.2.2.1 y4.2.2.2.2.2.2.1 y4.2.2.2.2.2.2.2.1 y4.2.2.2.2.2.2.2.2.1 y4.2.2.2.2.2.2.2.2.2.1 y4.2.2.2.2.2.2.2.2.2.2.1 y4.2.2.2.2.2.2.2.2.2.2.2.1 y4.2.2.2.2.2.2.2.2.2.2.2.2.1 aS ++ w_P cI cJ cZ aQ VQ0 VQ1 VQ2 NQ0 LQ0 LQ1 LQ2 LQ3 LQ4 IQ0 IQ1 aS ++ w_T cI cJ cZ aT y4.2.2.2.2.2.2.2.2.2.2.2.2.2.1 y4.2.2.2.2.2.2.2.2.2.2.2.2.2.2.1 y4.2.2.2.2.2.2.2.2.2.2.2.2.2.2.2.1 y4.2.2.2.2.2.2.2.2.2.2.2.2.2.2.2.2.1 y4.2.2.2.2.2.2.2.2.2.2.2.2.2.2.2.2.2 aS ++ w_O cI cJ cZ aO LO0) := hD.sub [1, 2, 3, 4, 5, 6, 7, 8, 9, 10, 11, 12, 13, 14, 15, 16, 17, 18, 19, 20, 21, 22, 23, 24, 25, 26, 27, 28, 29, 30, 31, 32, 33, 34, 35, 36, 37, 38, 39, 40, 41, 42, 43, 0] (by decide) rfl
  refine lv_i2l (v := (nI y4.1).toInt64) hx hb d_Law_run_7 rfl ?_
  refine hw_last (f := LO0) hx hb hK hP hD hS 43 1 rfl rfl (by decide) (by omega) d_Law_run_8 (fun H locs hP hD hS => ?_)
  have hP : va_P (dC, dI) vwCl (w_H cI cJ cZ aH y4.2.1 aS aP aQ aT ++ w_S cI cJ cZ aS VS0 VS1 VS2 NS0 NS1 NS2 LS0 LS1 LS2 LS3 LS4 LS5 LS6 LS7 LS8 IS0 aY ++ w_Y cI cJ cZ aY VY0 LY0 LY1 LY2 IY0 ++ w_P cI cJ cZ aP y4.2.2.1 y4.2.2.2.1 y4.2.2.2.2.1 y4.2.2.2.2.2.1 y4.2.2.2.2.2.2.1 y4.2.2.2.2.2.2.2.1 y4.2.2.2.2.2.2.2.2.1 y4.2.2.2.2.2.2.2.2.2.1 y4.2.2.2.2.2.2.2.2.2.2.1 y4.2.2.2.2.2.2.2.2.2.2.2.1 y4.2.2.2.2.2.2.2.2.2.2.2.2.1 aS ++ w_P cI cJ cZ aQ VQ0 VQ1 VQ2 NQ0 LQ0 LQ1 LQ2 LQ3 LQ4 IQ0 IQ1 aS ++ w_T cI cJ cZ aT y4.2.2.2.2.2.2.2.2.2.2.2.2.2.1 y4.2.2.2.2.2.2.2.2.2.2.2.2.2.2.1 y4.2.2.2.2.2.2.2.2.2.2.2.2.2.2.2.1 y4.2.2.2.2.2.2.2.2.2.2.2.2.2.2.2.2.1 y4.2.2.2.2.2.2.2.2.2.2.2.2.2.2.2.2.2 aS ++ w_O cI cJ cZ aO (vp_updL LO0 0 ((nI y4.1).toInt64))) H := hP
  have hD : va_D A (w_H cI cJ cZ aH y4.2.1 aS aP aQ aT ++ w_S cI cJ cZ aS VS0 VS1 VS2 NS0 NS1 NS2 LS0 LS1 LS2 LS3 LS4 LS5 LS6 LS7 LS8 IS0 aY ++ w_Y cI cJ cZ aY VY0 LY0 LY1 LY2 IY0 ++ w_P cI cJ cZ aP y4.2.2.1 y4.2.2.2.1 y4.2.2.2.2.1 y4.2.2.2.2.2.1 y4.2.2.2.2.2.2.1 y4.2.2.2.2.2.2.2.1 y4.2.2.2.2.2.2.2.2.1 y4.2.2.2.2.2.2.2.2.2.1 y4.2.2.2.2.2.2.2.2.2.2.1 y4.2.2.2.2.2.2.2.2.2.2.2.1 y4.2.2.2.2.2.2.2.2.2.2.2.2.1 aS ++ w_P cI cJ cZ aQ VQ0 VQ1 VQ2 NQ0 LQ0 LQ1 LQ2 LQ3 LQ4 IQ0 IQ1 aS ++ w_T cI cJ cZ aT y4.2.2.2.2.2.2.2.2.2.2.2.2.2.1 y4.2.2.2.2.2.2.2.2.2.2.2.2.2.2.1 y4.2.2.2.2.2.2.2.2.2.2.2.2.2.2.2.1 y4.2.2.2.2.2.2.2.2.2.2.2.2.2.2.2.2.1 y4.2.2.2.2.2.2.2.2.2.2.2.2.2.2.2.2.2 aS ++ w_O cI cJ cZ aO (vp_updL LO0 0 ((nI y4.1).toInt64))) := hD
  refine lv_goto (tgt := 15) hx hb d_Law_run_9 (by decide) ?_
  refine lv_iconst (v := nI 0) hx hb d_Law_run_15 (by decide) ?_
  subst hR
  exact W.iret (v := nI 0) hx hb hr (fun t ht hW => ⟨⟨_, (), rfl, rfl, by rw [ht]; exact hP, va_K.moved hW.alike hK, hD⟩, hS.F ht⟩) hS.2.2 d_Law_run_16
section HXW
variable {p : Program} {l : Launch} {e : Env} {R : Room} {s : State} {m : MethodId} {args : Array Value} {below : List Frame} {meth : Method} {c : Code} {H : Heap} {locs : List Loc} {cells slots : Nat} {Q : State → Prop}
variable {cc : ByteArray} {pc : Nat} {ls : Array Slot} {rest : List Value} {st0 : List Value}
theorem hx_W (hexec : p.tables.exec = Jvm.exec) (hb : c.code = cc) {own C : String} {index n : Nat} {y : MethodName} {bytes : ByteArray} {maxL : Nat} {ret : Option FieldType} {ws : List Cond} {rm : Room} {Pc : Array Value → State → Prop}
    (hM : MetFree l y (headSpec ws rm) Pc (fun _ _ _ _ _ => True) hx_Q) (hblind : FrameBlind Pc) (hrm : rm.cells = 1 ∧ rm.slots = 6) (hR : rm.frames + 1 ≤ R.frames ∧ 8 + (maxL + 11) + rm.locals ≤ R.locals) (hcs : cells + 1 ≤ R.cells ∧ slots + 6 ≤ R.slots)
    (hG : ∀ w ∈ wG, w.before args s = true) (hwe : ws = Cond.code y bytes maxL ret :: wG) (hown : s.vm.findClass own = some m.cls) (h1 : Cond.methodLink own index y ∈ wG) (h2 : Cond.instanceMethod y ∈ wG) (h3 : Cond.selects C y y ∈ wG) (h4 : Cond.initialized y.cls ∈ wG) (h5 : Cond.code y bytes maxL ret ∈ wG)
    (hy : y.cls ≠ "java/lang/invoke/MethodHandle" ∧ y.cls ≠ "java/lang/invoke/VarHandle") (hlen : (parseMethodDescriptor y.desc).map (fun d => d.parameters.length) = some n) {b : Addr} (hre : ∃ cell : Cell, H[b]? = some cell ∧ cell.vm.isStatics = false ∧ s.vm.findClass C = some cell.cls)
    {As : List Value} (hAs : As.length = n) (hsize : ls.size = c.maxLocals) (hst : st0 = As.reverse ++ .ref b :: rest) (hroom : (rest.map fun v => v.category).sum ≤ 8) (hdg : decode cc pc = .ok (.invokevirtual index, 3))
    (hpre : ∀ U : State, U.heap = H → s.WarmedH U.vm → Pc (Value.ref b :: As).toArray U)
    {x : ExceptionTableEntry} (ht : c.exceptionTable.toList = [x]) (hx : covers x pc = true) (h0 : x.catchType ≠ 0) (hlink : Cond.classLink own x.catchType hx_ISE ∈ wG)
    (kk : ∀ (q0 : Nat) (H1 : Heap), H.size ≤ H1.size → (∀ q, q < H.size → H1[q]? = H[q]?) → W p l e R s m args below meth c H1 locs (cells + 1) (slots + 6) Q (F0 m x.handlerPc ls [.ref q0])) : W p l e R s m args below meth c H locs cells slots Q (F0 m pc ls st0) := by
  intro T hT X
  obtain ⟨cellB, hc1, hc2, hc3⟩ := hre
  obtain ⟨q0, ce, T', X', hx1, hce, hcv, hcc, hca, hsz, hold, st1⟩ := hx_callV X hexec (own := own) (C := C) (index := index) (y := y) (bytes := bytes) (maxL := maxL) (ret := ret) hM hblind hrm hR.1 hR.2 hcs
    (fun w hw a' U hW => by
      rw [hwe] at hw
      rcases List.mem_cons.mp hw with rfl | hw
      · exact word_at hW (wG_good _ h5) (hG _ h5)
      · exact word_at hW (wG_good _ hw) (hG _ hw)) hown (hG _ h1) (hG _ h2) (hG _ h3) (hG _ h5) (hG _ h4) hy (b := b) (cellB := cellB) (by rw [hT]; exact hc1) hc2 hc3 (g := F0 m pc ls st0) rfl hsize (argsL := As) (rest := rest)
    (fun sig hs => by rw [hs] at hlen; rw [hAs]; exact (Option.some.inj hlen).symm) hst (lv_room hroom) (by rw [hb]; exact hdg) (fun vm₁ hW => hpre (T.setVm vm₁) hT hW)
  obtain ⟨vm', X2, st2⟩ := hx_caught X' (g := { F0 m pc ls st0 with stack := rest }) rfl (a := q0) ht hx h0 hown (hG _ hlink) hcc hce hcv rfl hca
  obtain ⟨t, a1, b1⟩ := kk q0 T'.heap (by rw [← hT]; exact hsz) (fun q hq => by rw [← hT] at hq ⊢; exact hold q hq) (T'.setVm vm') rfl X2
  exact ⟨t, st1 t (st2 t a1), b1⟩
end HXW
section HXS
variable {p : Program} {l : Launch} {e : Env} {R : Room} {s : State} {m : MethodId} {args : Array Value} {below : List Frame} {meth : Method} {c : Code} {H : Heap} {locs : List Loc} {cells slots : Nat} {Q : State → Prop}
/-- a static call of a method with a table of handlers -/
theorem hx_runS {y : MethodName} {bytes cc : ByteArray} {maxL nL mc ms n index : Nat} {ret : Option FieldType} {hh : List (Nat × Nat × Nat × Nat)} {ws : List Cond} {rm : Room} {Pc : Array Value → State → Prop} {Qc : Array Value → State → Outcome → State → Prop} {free : Addr → Prop} {Ts : List Cond} {own : String} {As rest : List Value} {g : JFrame}
    (S : CallFix p m c cc nL s args Ts own) (hM : Met l y ws rm Pc Qc mc ms free) (hG : ∀ w ∈ wG, w.before args s = true) (hwe : ws = Cond.codeWith y bytes maxL ret hh :: wG) (h1 : Cond.methodLink own index y ∈ wG) (h2 : Cond.static y ∈ wG) (h4 : Cond.initialized y.cls ∈ wG) (h5 : Cond.codeWith y bytes maxL ret hh ∈ wG) (hrm : rm.cells = mc ∧ rm.slots = ms) (hR : rm.frames + 1 ≤ R.frames ∧ 8 + (maxL + 11) + rm.locals ≤ R.locals)
    (hy : y.cls ≠ "java/lang/invoke/MethodHandle" ∧ y.cls ≠ "java/lang/invoke/VarHandle") (hlen : (parseMethodDescriptor y.desc).map (fun d => d.parameters.length) = some n) (hp : PreS s H Pc As)
    (hg : g.method = m) (hn : As.length = n) (hsize : g.locals.size = nL) (hstack : g.stack = As.reverse ++ rest) (hW : 2 * g.monitorRoom + (rest.map fun v => v.category).sum ≤ 8) (hdg : decode cc g.pc = .ok (.invokestatic index, 3)) (hf : cells + mc ≤ R.cells ∧ slots + ms ≤ R.slots) :
    va_Run p l e R s m args below meth c H locs cells slots mc ms g rest (Qc As.toArray) (free) := by
  have hws : ∀ w ∈ ws, ∀ (a' : Array Value) (U : State), s.WarmedH U.vm → w.before a' U = true := fun w hw a' U hW => by
    rw [hwe] at hw
    rcases List.mem_cons.mp hw with rfl | hw
    · exact word_at hW (wG_good _ h5) (hG _ h5)
    · exact word_at hW (wG_good _ hw) (hG _ hw)
  have hK : Back l R p e below s args y 3 8 (PreOf R mc ms Pc) (PostOf Qc mc ms free) :=
    va_backW (hh := hh) (bytes := bytes) (maxL := maxL) (ret := ret) hM hp.1 hrm.1 hrm.2 hR.1 hR.2 hws (by rw [hwe]; exact List.mem_cons_self) (fun a' U hW => word_at hW (wG_good _ h4) (hG _ h4))
  obtain ⟨hx, hb, hml, ho, -⟩ := S
  obtain ⟨mk, methM, cM, hnamed, hmethM, -, -, -, -, -, -, hsigM⟩ := Cond.codeWith_spec (hG _ h5)
  have hstatic : methM.isStatic = true := Cond.static_spec hnamed hmethM (hG _ h2)
  obtain ⟨kP, hkP, -⟩ := className_of_methodNamed hnamed
  have hinitP : kP.init = .initialized := Cond.initialized_spec (findClass_of_methodNamed hnamed) hkP (hG _ h4)
  have hlen' : As.length = methM.sig.parameters.length := by rw [hsigM] at hlen; rw [hn]; exact (Option.some.inj hlen).symm
  intro T hT X
  obtain ⟨vm₁, X₁, hstep₁⟩ := X.invokestatic hx ho (hG _ h1) hnamed hmethM hstatic hkP hinitP hy (g := g) hg (argsL := As) (rest := rest) hlen' hstack (by rw [hb]; exact hdg)
  obtain ⟨v, B, X', hpost, hsteps⟩ := hK m meth c ⟨T.setVm vm₁, locs, cells, slots⟩ { g with stack := rest } (.invokestatic index) mk As.toArray X₁ hg (hsize.trans hml.symm) (by rw [hb]; exact hdg) hW (X₁.named hnamed) ⟨hf.1, hf.2, hp.2 (T.setVm vm₁) hT X₁.warmed⟩
  obtain ⟨U', l2, c2, s2⟩ := B
  obtain ⟨g', mk', t, L, e1, e2, hq, q1, hL, q2, q3⟩ := hpost
  dsimp only [Pt.U, Pt.locs, Pt.cells, Pt.slots] at X' e1 e2 q1 q2 q3 hsteps
  subst q1; subst q2; subst q3
  exact ⟨v, (T.setVm vm₁).calling g' mk' As.toArray, t, U', L, hT, X', hL, e1, e2, hq, fun target h => hstep₁ _ fun acts => by rw [doInvoke_state]; exact hsteps.trans h⟩
end HXS
set_option maxHeartbeats 4000000 in
set_option maxRecDepth 100000 in
/-- the law's run: 1 where run() throws -/
theorem ct_Law_run (l : Launch) (hf : l.flags = pinnedFlags ++ [noTraceFlag]) (dC : Nat → ClassId) (dI : Nat → Nat → Nat) (cI cJ cZ : ClassId) (sz : Nat) (aH : Nat → Nat) (VH0 : Nat) (aS : Nat → Nat) (VS0 : Nat) (VS1 : Nat) (VS2 : Nat) (NS0 : Nat → Nat) (NS1 : Nat → Nat) (NS2 : Nat → Nat) (LS0 : Nat → Int64) (LS1 : Nat → Int64) (LS2 : Nat → Int64) (LS3 : Nat → Int64) (LS4 : Nat → Int64) (LS5 : Nat → Int64) (LS6 : Nat → Int64) (LS7 : Nat → Int64) (LS8 : Nat → Int64) (IS0 : Nat → Int32) (aY : Nat → Nat) (VY0 : Nat) (LY0 : Nat → Int64) (LY1 : Nat → Int64) (LY2 : Nat → Int64) (IY0 : Nat → Int32) (aP : Nat → Nat) (VP0 : Nat) (VP1 : Nat) (VP2 : Nat) (NP0 : Nat → Nat) (LP0 : Nat → Int64) (LP1 : Nat → Int64) (LP2 : Nat → Int64) (LP3 : Nat → Int64) (LP4 : Nat → Int64) (IP0 : Nat → Int32) (IP1 : Nat → Int32) (aQ : Nat → Nat) (VQ0 : Nat) (VQ1 : Nat) (VQ2 : Nat) (NQ0 : Nat → Nat) (LQ0 : Nat → Int64) (LQ1 : Nat → Int64) (LQ2 : Nat → Int64) (LQ3 : Nat → Int64) (LQ4 : Nat → Int64) (IQ0 : Nat → Int32) (IQ1 : Nat → Int32) (aT : Nat → Nat) (VT0 : Nat) (NT0 : Nat → Nat) (NT1 : Nat → Nat) (LT0 : Nat → Int64) (IT0 : Nat → Int32) (aO : Nat → Nat) (LO0 : Nat → Int64) (x1 : Int32) (hsteps : ¬ nI ((VS0 + VS1) * VS2) ≤ x1) : Met l y_Law_run u_Law_run ({ frames := 7, cells := 1, slots := 6, locals := 168 }) (va_Pc [.ref (aH 0), .int x1, .ref (aO 0)] (fun U => hh_In (dC, dI) vwCl [(cI, .int), (cJ, .long), (cZ, .boolean)] (w_H cI cJ cZ aH VH0 aS aP aQ aT ++ w_S cI cJ cZ aS VS0 VS1 VS2 NS0 NS1 NS2 LS0 LS1 LS2 LS3 LS4 LS5 LS6 LS7 LS8 IS0 aY ++ w_Y cI cJ cZ aY VY0 LY0 LY1 LY2 IY0 ++ w_P cI cJ cZ aP VP0 VP1 VP2 NP0 LP0 LP1 LP2 LP3 LP4 IP0 IP1 aS ++ w_P cI cJ cZ aQ VQ0 VQ1 VQ2 NQ0 LQ0 LQ1 LQ2 LQ3 LQ4 IQ0 IQ1 aS ++ w_T cI cJ cZ aT VT0 NT0 NT1 LT0 IT0 aS ++ w_O cI cJ cZ aO LO0) sz U ∧ hx_Th U)) (va_Qi (fun v (_ : Unit) => v = nI 1) (fun _ => hh_Out (dC, dI) vwCl [(cI, .int), (cJ, .long), (cZ, .boolean)] (va_A (w_H cI cJ cZ aH VH0 aS aP aQ aT ++ w_S cI cJ cZ aS VS0 VS1 VS2 NS0 NS1 NS2 LS0 LS1 LS2 LS3 LS4 LS5 LS6 LS7 LS8 IS0 aY ++ w_Y cI cJ cZ aY VY0 LY0 LY1 LY2 IY0 ++ w_P cI cJ cZ aP VP0 VP1 VP2 NP0 LP0 LP1 LP2 LP3 LP4 IP0 IP1 aS ++ w_P cI cJ cZ aQ VQ0 VQ1 VQ2 NQ0 LQ0 LQ1 LQ2 LQ3 LQ4 IQ0 IQ1 aS ++ w_T cI cJ cZ aT VT0 NT0 NT1 LT0 IT0 aS ++ w_O cI cJ cZ aO LO0) sz) (w_H cI cJ cZ aH VH0 aS aP aQ aT ++ w_S cI cJ cZ aS VS0 VS1 VS2 NS0 NS1 NS2 LS0 LS1 LS2 LS3 LS4 LS5 LS6 LS7 LS8 IS0 aY ++ w_Y cI cJ cZ aY VY0 LY0 LY1 LY2 IY0 ++ w_P cI cJ cZ aP VP0 VP1 VP2 NP0 LP0 LP1 LP2 LP3 LP4 IP0 IP1 aS ++ w_P cI cJ cZ aQ VQ0 VQ1 VQ2 NQ0 LQ0 LQ1 LQ2 LQ3 LQ4 IQ0 IQ1 aS ++ w_T cI cJ cZ aT VT0 NT0 NT1 LT0 IT0 aS ++ w_O cI cJ cZ aO LO0)) (va_A (w_H cI cJ cZ aH VH0 aS aP aQ aT ++ w_S cI cJ cZ aS VS0 VS1 VS2 NS0 NS1 NS2 LS0 LS1 LS2 LS3 LS4 LS5 LS6 LS7 LS8 IS0 aY ++ w_Y cI cJ cZ aY VY0 LY0 LY1 LY2 IY0 ++ w_P cI cJ cZ aP VP0 VP1 VP2 NP0 LP0 LP1 LP2 LP3 LP4 IP0 IP1 aS ++ w_P cI cJ cZ aQ VQ0 VQ1 VQ2 NQ0 LQ0 LQ1 LQ2 LQ3 LQ4 IQ0 IQ1 aS ++ w_T cI cJ cZ aT VT0 NT0 NT1 LT0 IT0 aS ++ w_O cI cJ cZ aO LO0) sz)) 1 6 (va_A (w_H cI cJ cZ aH VH0 aS aP aQ aT ++ w_S cI cJ cZ aS VS0 VS1 VS2 NS0 NS1 NS2 LS0 LS1 LS2 LS3 LS4 LS5 LS6 LS7 LS8 IS0 aY ++ w_Y cI cJ cZ aY VY0 LY0 LY1 LY2 IY0 ++ w_P cI cJ cZ aP VP0 VP1 VP2 NP0 LP0 LP1 LP2 LP3 LP4 IP0 IP1 aS ++ w_P cI cJ cZ aQ VQ0 VQ1 VQ2 NQ0 LQ0 LQ1 LQ2 LQ3 LQ4 IQ0 IQ1 aS ++ w_T cI cJ cZ aT VT0 NT0 NT1 LT0 IT0 aS ++ w_O cI cJ cZ aO LO0) sz) := by
  refine va_MetW (hh := [(0, 9, 12, 13)]) (cc := b_Law_run) (maxL := 4) (ret := (some .int)) (by decide) rfl ?_
  intro p e s m args below meth c s₁ B hml hv
  obtain ⟨rfl, ⟨hsz, hP, hK, hD0⟩, hTh⟩ := hv
  have hx := B.exec
  have hb := B.bytes
  have hr := B.returns
  have hts := atoms_spec (ws := u_Law_run) B.pre
  have hG : ∀ w ∈ wG, w.before ([.ref (aH 0), .int x1, .ref (aO 0)]).toArray s = true := fun w h => hts w (List.mem_cons_of_mem _ h)
  have hown : s.vm.findClass R_Law = some m.cls := findClass_of_methodNamed B.named
  have hlocks := B.notSynchronized
  obtain ⟨m9, meth9, c9, hn9, hm9, hc9, -, -, htab, -, -, -⟩ := Cond.codeWith_spec (hts _ List.mem_cons_self)
  cases B.named.symm.trans hn9
  cases B.method.symm.trans hm9
  cases (Stand.of_body B).code.symm.trans hc9
  have htab : c.exceptionTable.toList = [(⟨0, 9, 12, 13⟩ : ExceptionTableEntry)] := by rw [← table_eq c.exceptionTable.toList, htab]; rfl
  subst hsz
  have hD := hD0.self (sz := s.heap.size)
  generalize hAe : va_A (w_H cI cJ cZ aH VH0 aS aP aQ aT ++ w_S cI cJ cZ aS VS0 VS1 VS2 NS0 NS1 NS2 LS0 LS1 LS2 LS3 LS4 LS5 LS6 LS7 LS8 IS0 aY ++ w_Y cI cJ cZ aY VY0 LY0 LY1 LY2 IY0 ++ w_P cI cJ cZ aP VP0 VP1 VP2 NP0 LP0 LP1 LP2 LP3 LP4 IP0 IP1 aS ++ w_P cI cJ cZ aQ VQ0 VQ1 VQ2 NQ0 LQ0 LQ1 LQ2 LQ3 LQ4 IQ0 IQ1 aS ++ w_T cI cJ cZ aT VT0 NT0 NT1 LT0 IT0 aS ++ w_O cI cJ cZ aO LO0) s.heap.size = A at hD ⊢
  have hA : ∀ q : Nat, s.heap.size ≤ q → A q := fun q h => by rw [← hAe]; exact Or.inr h
  have hl := lv_entry ([.ref (aH 0), .int x1, .ref (aO 0)]) (n := 4) (Nat.le_of_ble_eq_true rfl)
  rw [lg_entry_eq]
  generalize (lg_sl ([.ref (aH 0), .int x1, .ref (aO 0)]) ++ List.replicate (4 - (lg_sl ([.ref (aH 0), .int x1, .ref (aO 0)])).length) Slot.unset).toArray = ls at hl ⊢
  have hl : lv_has ls 4 [(0, .ref (aH 0)), (1, .int x1), (2, .ref (aO 0))] := hl
  refine lv_aload_n hx hb d_Law_run_0 rfl (lv_at hl 2 rfl) ?_
  refine lv_iconst (v := nI 0) hx hb d_Law_run_1 (by decide) ?_
  refine lv_aload_n hx hb d_Law_run_2 rfl (lv_at hl 0 rfl) ?_
  refine lv_iload_n hx hb d_Law_run_3 rfl (lv_at hl 1 rfl) ?_
  refine hx_W (n := 1) (As := [.int x1]) (rest := [.int (nI 0), .ref (aO 0)]) hx hb (ct_HaulFlows_run l hf dC dI cI cJ cZ aH VH0 aS VS0 VS1 VS2 NS0 NS1 NS2 LS0 LS1 LS2 LS3 LS4 LS5 LS6 LS7 LS8 IS0 aY VY0 LY0 LY1 LY2 IY0 aP aQ aT x1 hsteps) (fun a U g mk q => ⟨q.1, q.2.1, va_K.moved (u := U) (U := U.calling g mk a) (Vm.Alike.refl U.vm) q.2.2.1, q.2.2.2.calling⟩) ⟨rfl, rfl⟩ ⟨Nat.le_of_ble_eq_true rfl, Nat.le_of_ble_eq_true rfl⟩ ⟨Nat.le_of_ble_eq_true rfl, Nat.le_of_ble_eq_true rfl⟩ hG rfl hown m_469 m_470 m_471 m_1 m_472 (by decide +kernel) (by decide +kernel) (hw_recv hK hP 0 rfl rfl) rfl (hl.1.trans hml.symm) rfl (Nat.le_of_ble_eq_true rfl) d_Law_run_4
    (fun U hU hW => ⟨rfl, by rw [hU]; exact hP.sub [0, 1, 2, 3, 4, 5, 6, 7, 8, 9, 10, 11, 12, 13, 14, 15, 16, 17, 18, 19] rfl, va_K.moved hW.alike hK, hTh.moved hW (fun q cell h _ => by rw [hU]; exact h)⟩) htab (by decide) (by decide) m_468 (fun q0 H1 hz hk => ?_)
  refine lv_astore_n (lv' := [(3, .ref q0), (0, .ref (aH 0)), (1, .int x1), (2, .ref (aO 0))]) hx hb d_Law_run_12 rfl hl (by decide) rfl (fun ls hl => ?_)
  refine lv_iconst (v := nI 1) hx hb d_Law_run_13 (by decide) ?_
  have hP1 : va_P (dC, dI) vwCl (w_H cI cJ cZ aH VH0 aS aP aQ aT ++ w_S cI cJ cZ aS VS0 VS1 VS2 NS0 NS1 NS2 LS0 LS1 LS2 LS3 LS4 LS5 LS6 LS7 LS8 IS0 aY ++ w_Y cI cJ cZ aY VY0 LY0 LY1 LY2 IY0 ++ w_P cI cJ cZ aP VP0 VP1 VP2 NP0 LP0 LP1 LP2 LP3 LP4 IP0 IP1 aS ++ w_P cI cJ cZ aQ VQ0 VQ1 VQ2 NQ0 LQ0 LQ1 LQ2 LQ3 LQ4 IQ0 IQ1 aS ++ w_T cI cJ cZ aT VT0 NT0 NT1 LT0 IT0 aS ++ w_O cI cJ cZ aO LO0) H1 := fun k q hq => (hP k q hq).kept (hk q.1 (hP k q hq).lt)
  exact W.iret (v := nI 1) hx hb hr (fun t ht hW => ⟨⟨_, (), rfl, rfl, by rw [ht]; exact hP1, va_K.moved hW.alike hK, hD⟩, by rw [ht]; exact hz, fun q h1 _ => by rw [ht]; exact hk q h1⟩) (fun q h => by cases h) d_Law_run_14
