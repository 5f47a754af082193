abbrev b_HaulFlows_run : ByteArray := prog_1_method_10_code
def y_HaulFlows_run : MethodName := ⟨R_HaulFlows, "run", "(I)I"⟩
def u_HaulFlows_run : List Cond := Cond.code y_HaulFlows_run b_HaulFlows_run 2 (some .int) :: wG
theorem d_HaulFlows_run_0 : decode b_HaulFlows_run 0 = .ok (.aload_n 0, 1) := by decide +kernel
theorem d_HaulFlows_run_1 : decode b_HaulFlows_run 1 = .ok (.getfield 12, 3) := by decide +kernel
theorem d_HaulFlows_run_4 : decode b_HaulFlows_run 4 = .ok (.invokevirtual 110, 3) := by decide +kernel
theorem d_HaulFlows_run_7 : decode b_HaulFlows_run 7 = .ok (.aload_n 0, 1) := by decide +kernel
theorem d_HaulFlows_run_8 : decode b_HaulFlows_run 8 = .ok (.getfield 12, 3) := by decide +kernel
theorem d_HaulFlows_run_11 : decode b_HaulFlows_run 11 = .ok (.getfield 57, 3) := by decide +kernel
theorem d_HaulFlows_run_14 : decode b_HaulFlows_run 14 = .ok (.imul, 1) := by decide +kernel
theorem d_HaulFlows_run_15 : decode b_HaulFlows_run 15 = .ok (.iload_n 1, 1) := by decide +kernel
theorem d_HaulFlows_run_16 : decode b_HaulFlows_run 16 = .ok (.if_icmp .le 13, 3) := by decide +kernel
theorem d_HaulFlows_run_19 : decode b_HaulFlows_run 19 = .ok (.new 114, 3) := by decide +kernel
theorem d_HaulFlows_run_22 : decode b_HaulFlows_run 22 = .ok (.dup, 1) := by decide +kernel
theorem d_HaulFlows_run_23 : decode b_HaulFlows_run 23 = .ok (.ldc 116, 2) := by decide +kernel
theorem d_HaulFlows_run_25 : decode b_HaulFlows_run 25 = .ok (.invokespecial 118, 3) := by decide +kernel
theorem d_HaulFlows_run_28 : decode b_HaulFlows_run 28 = .ok (.athrow, 1) := by decide +kernel
theorem d_HaulFlows_run_29 : decode b_HaulFlows_run 29 = .ok (.aload_n 0, 1) := by decide +kernel
theorem d_HaulFlows_run_30 : decode b_HaulFlows_run 30 = .ok (.getfield 35, 3) := by decide +kernel
theorem d_HaulFlows_run_33 : decode b_HaulFlows_run 33 = .ok (.ifCond .ne 11, 3) := by decide +kernel
theorem d_HaulFlows_run_36 : decode b_HaulFlows_run 36 = .ok (.aload_n 0, 1) := by decide +kernel
theorem d_HaulFlows_run_37 : decode b_HaulFlows_run 37 = .ok (.aload_n 0, 1) := by decide +kernel
theorem d_HaulFlows_run_38 : decode b_HaulFlows_run 38 = .ok (.invokevirtual 121, 3) := by decide +kernel
theorem d_HaulFlows_run_41 : decode b_HaulFlows_run 41 = .ok (.putfield 35, 3) := by decide +kernel
theorem d_HaulFlows_run_44 : decode b_HaulFlows_run 44 = .ok (.aload_n 0, 1) := by decide +kernel
theorem d_HaulFlows_run_45 : decode b_HaulFlows_run 45 = .ok (.getfield 35, 3) := by decide +kernel
theorem d_HaulFlows_run_48 : decode b_HaulFlows_run 48 = .ok (.iconst 1, 1) := by decide +kernel
theorem d_HaulFlows_run_49 : decode b_HaulFlows_run 49 = .ok (.if_icmp .ne 7, 3) := by decide +kernel
theorem d_HaulFlows_run_52 : decode b_HaulFlows_run 52 = .ok (.iconst 0, 1) := by decide +kernel
theorem d_HaulFlows_run_53 : decode b_HaulFlows_run 53 = .ok (.goto 4, 3) := by decide +kernel
theorem d_HaulFlows_run_56 : decode b_HaulFlows_run 56 = .ok (.iconst 1, 1) := by decide +kernel
theorem d_HaulFlows_run_57 : decode b_HaulFlows_run 57 = .ok (.ireturn, 1) := by decide +kernel
/-! ===== run(): it answers, or throws ===== -/
theorem f_HaulFlows_workOut_le (VS0 : Nat) (VS1 : Nat) (VS2 : Nat) (NS0 : Nat → Nat) (NS1 : Nat → Nat) (NS2 : Nat → Nat) (LS0 : Nat → Int64) (LS1 : Nat → Int64) (LS2 : Nat → Int64) (LS3 : Nat → Int64) (LS4 : Nat → Int64) (LS5 : Nat → Int64) (LS6 : Nat → Int64) (LS7 : Nat → Int64) (LS8 : Nat → Int64) (IS0 : Nat → Int32) (VY0 : Nat) (LY0 : Nat → Int64) (LY1 : Nat → Int64) (LY2 : Nat → Int64) (IY0 : Nat → Int32) (VP0 : Nat) (VP1 : Nat) (VP2 : Nat) (NP0 : Nat → Nat) (LP0 : Nat → Int64) (LP1 : Nat → Int64) (LP2 : Nat → Int64) (LP3 : Nat → Int64) (LP4 : Nat → Int64) (IP0 : Nat → Int32) (IP1 : Nat → Int32) (VT0 : Nat) (NT0 : Nat → Nat) (NT1 : Nat → Nat) (LT0 : Nat → Int64) (IT0 : Nat → Int32) : (f_HaulFlows_workOut VS0 VS1 VS2 NS0 NS1 NS2 LS0 LS1 LS2 LS3 LS4 LS5 LS6 LS7 LS8 IS0 VY0 LY0 LY1 LY2 IY0 VP0 VP1 VP2 NP0 LP0 LP1 LP2 LP3 LP4 IP0 IP1 VT0 NT0 NT1 LT0 IT0).1 ≤ 2 := by
  unfold f_HaulFlows_workOut hh_bind
  dsimp only
  split
  · exact Nat.le_refl 2
  · split
    · exact Nat.le_refl 2
    · exact Nat.le_succ 1
def f_HaulFlows_run (VH0 : Nat) (VS0 : Nat) (VS1 : Nat) (VS2 : Nat) (NS0 : Nat → Nat) (NS1 : Nat → Nat) (NS2 : Nat → Nat) (LS0 : Nat → Int64) (LS1 : Nat → Int64) (LS2 : Nat → Int64) (LS3 : Nat → Int64) (LS4 : Nat → Int64) (LS5 : Nat → Int64) (LS6 : Nat → Int64) (LS7 : Nat → Int64) (LS8 : Nat → Int64) (IS0 : Nat → Int32) (VY0 : Nat) (LY0 : Nat → Int64) (LY1 : Nat → Int64) (LY2 : Nat → Int64) (IY0 : Nat → Int32) (VP0 : Nat) (VP1 : Nat) (VP2 : Nat) (NP0 : Nat → Nat) (LP0 : Nat → Int64) (LP1 : Nat → Int64) (LP2 : Nat → Int64) (LP3 : Nat → Int64) (LP4 : Nat → Int64) (IP0 : Nat → Int32) (IP1 : Nat → Int32) (VT0 : Nat) (NT0 : Nat → Nat) (NT1 : Nat → Nat) (LT0 : Nat → Int64) (IT0 : Nat → Int32) (x1 : Int32) : Nat × (Nat) × (Nat) × (Nat) × (Nat) × (Nat → Nat) × (Nat → Int64) × (Nat → Int64) × (Nat → Int64) × (Nat → Int64) × (Nat → Int64) × (Nat → Int32) × (Nat → Int32) × (Nat) × (Nat → Nat) × (Nat → Nat) × (Nat → Int64) × (Nat → Int32) :=
  hh_bind (f_Site_sources VS0 VS1) (fun y4 => if (nI (y4 * VS2)) ≤ x1 then (if VH0 = 0 then (hh_bind (f_HaulFlows_workOut VS0 VS1 VS2 NS0 NS1 NS2 LS0 LS1 LS2 LS3 LS4 LS5 LS6 LS7 LS8 IS0 VY0 LY0 LY1 LY2 IY0 VP0 VP1 VP2 NP0 LP0 LP1 LP2 LP3 LP4 IP0 IP1 VT0 NT0 NT1 LT0 IT0) (fun y38 => if y38.1 = 1 then (0, y38.1, y38.2.1, y38.2.2.1, y38.2.2.2.1, y38.2.2.2.2.1, y38.2.2.2.2.2.1, y38.2.2.2.2.2.2.1, y38.2.2.2.2.2.2.2.1, y38.2.2.2.2.2.2.2.2.1, y38.2.2.2.2.2.2.2.2.2.1, y38.2.2.2.2.2.2.2.2.2.2.1, y38.2.2.2.2.2.2.2.2.2.2.2.1, y38.2.2.2.2.2.2.2.2.2.2.2.2.1, y38.2.2.2.2.2.2.2.2.2.2.2.2.2.1, y38.2.2.2.2.2.2.2.2.2.2.2.2.2.2.1, y38.2.2.2.2.2.2.2.2.2.2.2.2.2.2.2.1, y38.2.2.2.2.2.2.2.2.2.2.2.2.2.2.2.2) else (1, y38.1, y38.2.1, y38.2.2.1, y38.2.2.2.1, y38.2.2.2.2.1, y38.2.2.2.2.2.1, y38.2.2.2.2.2.2.1, y38.2.2.2.2.2.2.2.1, y38.2.2.2.2.2.2.2.2.1, y38.2.2.2.2.2.2.2.2.2.1, y38.2.2.2.2.2.2.2.2.2.2.1, y38.2.2.2.2.2.2.2.2.2.2.2.1, y38.2.2.2.2.2.2.2.2.2.2.2.2.1, y38.2.2.2.2.2.2.2.2.2.2.2.2.2.1, y38.2.2.2.2.2.2.2.2.2.2.2.2.2.2.1, y38.2.2.2.2.2.2.2.2.2.2.2.2.2.2.2.1, y38.2.2.2.2.2.2.2.2.2.2.2.2.2.2.2.2))) else (if VH0 = 1 then (0, VH0, VP0, VP1, VP2, NP0, LP0, LP1, LP2, LP3, LP4, IP0, IP1, VT0, NT0, NT1, LT0, IT0) else (1, VH0, VP0, VP1, VP2, NP0, LP0, LP1, LP2, LP3, LP4, IP0, IP1, VT0, NT0, NT1, LT0, IT0))) else (0, VH0, VP0, VP1, VP2, NP0, LP0, LP1, LP2, LP3, LP4, IP0, IP1, VT0, NT0, NT1, LT0, IT0))
set_option maxHeartbeats 4000000 in
set_option maxRecDepth 100000 in
theorem c_HaulFlows_run (l : Launch) (dC : Nat → ClassId) (dI : Nat → Nat → Nat) (cI cJ cZ : ClassId) (sz : Nat) (aH : Nat → Nat) (VH0 : Nat) (aS : Nat → Nat) (VS0 : Nat) (VS1 : Nat) (VS2 : Nat) (NS0 : Nat → Nat) (NS1 : Nat → Nat) (NS2 : Nat → Nat) (LS0 : Nat → Int64) (LS1 : Nat → Int64) (LS2 : Nat → Int64) (LS3 : Nat → Int64) (LS4 : Nat → Int64) (LS5 : Nat → Int64) (LS6 : Nat → Int64) (LS7 : Nat → Int64) (LS8 : Nat → Int64) (IS0 : Nat → Int32) (aY : Nat → Nat) (VY0 : Nat) (LY0 : Nat → Int64) (LY1 : Nat → Int64) (LY2 : Nat → Int64) (IY0 : Nat → Int32) (aP : Nat → Nat) (VP0 : Nat) (VP1 : Nat) (VP2 : Nat) (NP0 : Nat → Nat) (LP0 : Nat → Int64) (LP1 : Nat → Int64) (LP2 : Nat → Int64) (LP3 : Nat → Int64) (LP4 : Nat → Int64) (IP0 : Nat → Int32) (IP1 : Nat → Int32) (aQ : Nat → Nat) (VQ0 : Nat) (VQ1 : Nat) (VQ2 : Nat) (NQ0 : Nat → Nat) (LQ0 : Nat → Int64) (LQ1 : Nat → Int64) (LQ2 : Nat → Int64) (LQ3 : Nat → Int64) (LQ4 : Nat → Int64) (IQ0 : Nat → Int32) (IQ1 : Nat → Int32) (aT : Nat → Nat) (VT0 : Nat) (NT0 : Nat → Nat) (NT1 : Nat → Nat) (LT0 : Nat → Int64) (IT0 : Nat → Int32) (x1 : Int32) (hc8 : VS0 ≤ 8) (hp4 : VS1 ≤ 4) (hf8 : VS2 ≤ 8) (hy6 : VY0 ≤ 6) (hk4 : ∀ i, NS0 i < 4) (hcw : ∀ i, NS1 i < 12) (hfw : ∀ i, NS2 i < 12) (hq : ∀ i, NP0 i < 21) (htq : ∀ i, NT1 i < 34) (hst : VH0 ≤ 2) (hpl : VH0 = 1 → VP0 = VS0 + VS1 ∧ VP1 = VS2) (hsf : VT0 ≤ 8) (hsteps : nI ((VS0 + VS1) * VS2) ≤ x1) : hh_Ci l y_HaulFlows_run u_HaulFlows_run ({ frames := 6, cells := 0, slots := 0, locals := 147 }) (dC, dI) vwCl [(cI, .int), (cJ, .long), (cZ, .boolean)] (w_H cI cJ cZ aH VH0 aS aP aQ aT ++ w_S cI cJ cZ aS VS0 VS1 VS2 NS0 NS1 NS2 LS0 LS1 LS2 LS3 LS4 LS5 LS6 LS7 LS8 IS0 aY ++ w_Y cI cJ cZ aY VY0 LY0 LY1 LY2 IY0 ++ w_P cI cJ cZ aP VP0 VP1 VP2 NP0 LP0 LP1 LP2 LP3 LP4 IP0 IP1 aS ++ w_P cI cJ cZ aQ VQ0 VQ1 VQ2 NQ0 LQ0 LQ1 LQ2 LQ3 LQ4 IQ0 IQ1 aS ++ w_T cI cJ cZ aT VT0 NT0 NT1 LT0 IT0 aS) sz [.ref (aH 0), .int x1] (nI ((f_HaulFlows_run VH0 VS0 VS1 VS2 NS0 NS1 NS2 LS0 LS1 LS2 LS3 LS4 LS5 LS6 LS7 LS8 IS0 VY0 LY0 LY1 LY2 IY0 VP0 VP1 VP2 NP0 LP0 LP1 LP2 LP3 LP4 IP0 IP1 VT0 NT0 NT1 LT0 IT0 x1).1)) (w_H cI cJ cZ aH ((f_HaulFlows_run VH0 VS0 VS1 VS2 NS0 NS1 NS2 LS0 LS1 LS2 LS3 LS4 LS5 LS6 LS7 LS8 IS0 VY0 LY0 LY1 LY2 IY0 VP0 VP1 VP2 NP0 LP0 LP1 LP2 LP3 LP4 IP0 IP1 VT0 NT0 NT1 LT0 IT0 x1).2.1) aS aP aQ aT ++ w_S cI cJ cZ aS VS0 VS1 VS2 NS0 NS1 NS2 LS0 LS1 LS2 LS3 LS4 LS5 LS6 LS7 LS8 IS0 aY ++ w_Y cI cJ cZ aY VY0 LY0 LY1 LY2 IY0 ++ w_P cI cJ cZ aP ((f_HaulFlows_run VH0 VS0 VS1 VS2 NS0 NS1 NS2 LS0 LS1 LS2 LS3 LS4 LS5 LS6 LS7 LS8 IS0 VY0 LY0 LY1 LY2 IY0 VP0 VP1 VP2 NP0 LP0 LP1 LP2 LP3 LP4 IP0 IP1 VT0 NT0 NT1 LT0 IT0 x1).2.2.1) ((f_HaulFlows_run VH0 VS0 VS1 VS2 NS0 NS1 NS2 LS0 LS1 LS2 LS3 LS4 LS5 LS6 LS7 LS8 IS0 VY0 LY0 LY1 LY2 IY0 VP0 VP1 VP2 NP0 LP0 LP1 LP2 LP3 LP4 IP0 IP1 VT0 NT0 NT1 LT0 IT0 x1).2.2.2.1) ((f_HaulFlows_run VH0 VS0 VS1 VS2 NS0 NS1 NS2 LS0 LS1 LS2 LS3 LS4 LS5 LS6 LS7 LS8 IS0 VY0 LY0 LY1 LY2 IY0 VP0 VP1 VP2 NP0 LP0 LP1 LP2 LP3 LP4 IP0 IP1 VT0 NT0 NT1 LT0 IT0 x1).2.2.2.2.1) ((f_HaulFlows_run VH0 VS0 VS1 VS2 NS0 NS1 NS2 LS0 LS1 LS2 LS3 LS4 LS5 LS6 LS7 LS8 IS0 VY0 LY0 LY1 LY2 IY0 VP0 VP1 VP2 NP0 LP0 LP1 LP2 LP3 LP4 IP0 IP1 VT0 NT0 NT1 LT0 IT0 x1).2.2.2.2.2.1) ((f_HaulFlows_run VH0 VS0 VS1 VS2 NS0 NS1 NS2 LS0 LS1 LS2 LS3 LS4 LS5 LS6 LS7 LS8 IS0 VY0 LY0 LY1 LY2 IY0 VP0 VP1 VP2 NP0 LP0 LP1 LP2 LP3 LP4 IP0 IP1 VT0 NT0 NT1 LT0 IT0 x1).2.2.2.2.2.2.1) ((f_HaulFlows_run VH0 VS0 VS1 VS2 NS0 NS1 NS2 LS0 LS1 LS2 LS3 LS4 LS5 LS6 LS7 LS8 IS0 VY0 LY0 LY1 LY2 IY0 VP0 VP1 VP2 NP0 LP0 LP1 LP2 LP3 LP4 IP0 IP1 VT0 NT0 NT1 LT0 IT0 x1).2.2.2.2.2.2.2.1) ((f_HaulFlows_run VH0 VS0 VS1 VS2 NS0 NS1 NS2 LS0 LS1 LS2 LS3 LS4 LS5 LS6 LS7 LS8 IS0 VY0 LY0 LY1 LY2 IY0 VP0 VP1 VP2 NP0 LP0 LP1 LP2 LP3 LP4 IP0 IP1 VT0 NT0 NT1 LT0 IT0 x1).2.2.2.2.2.2.2.2.1) ((f_HaulFlows_run VH0 VS0 VS1 VS2 NS0 NS1 NS2 LS0 LS1 LS2 LS3 LS4 LS5 LS6 LS7 LS8 IS0 VY0 LY0 LY1 LY2 IY0 VP0 VP1 VP2 NP0 LP0 LP1 LP2 LP3 LP4 IP0 IP1 VT0 NT0 NT1 LT0 IT0 x1).2.2.2.2.2.2.2.2.2.1) ((f_HaulFlows_run VH0 VS0 VS1 VS2 NS0 NS1 NS2 LS0 LS1 LS2 LS3 LS4 LS5 LS6 LS7 LS8 IS0 VY0 LY0 LY1 LY2 IY0 VP0 VP1 VP2 NP0 LP0 LP1 LP2 LP3 LP4 IP0 IP1 VT0 NT0 NT1 LT0 IT0 x1).2.2.2.2.2.2.2.2.2.2.1) ((f_HaulFlows_run VH0 VS0 VS1 VS2 NS0 NS1 NS2 LS0 LS1 LS2 LS3 LS4 LS5 LS6 LS7 LS8 IS0 VY0 LY0 LY1 LY2 IY0 VP0 VP1 VP2 NP0 LP0 LP1 LP2 LP3 LP4 IP0 IP1 VT0 NT0 NT1 LT0 IT0 x1).2.2.2.2.2.2.2.2.2.2.2.1) ((f_HaulFlows_run VH0 VS0 VS1 VS2 NS0 NS1 NS2 LS0 LS1 LS2 LS3 LS4 LS5 LS6 LS7 LS8 IS0 VY0 LY0 LY1 LY2 IY0 VP0 VP1 VP2 NP0 LP0 LP1 LP2 LP3 LP4 IP0 IP1 VT0 NT0 NT1 LT0 IT0 x1).2.2.2.2.2.2.2.2.2.2.2.2.1) aS ++ w_P cI cJ cZ aQ VQ0 VQ1 VQ2 NQ0 LQ0 LQ1 LQ2 LQ3 LQ4 IQ0 IQ1 aS ++ w_T cI cJ cZ aT ((f_HaulFlows_run VH0 VS0 VS1 VS2 NS0 NS1 NS2 LS0 LS1 LS2 LS3 LS4 LS5 LS6 LS7 LS8 IS0 VY0 LY0 LY1 LY2 IY0 VP0 VP1 VP2 NP0 LP0 LP1 LP2 LP3 LP4 IP0 IP1 VT0 NT0 NT1 LT0 IT0 x1).2.2.2.2.2.2.2.2.2.2.2.2.2.1) ((f_HaulFlows_run VH0 VS0 VS1 VS2 NS0 NS1 NS2 LS0 LS1 LS2 LS3 LS4 LS5 LS6 LS7 LS8 IS0 VY0 LY0 LY1 LY2 IY0 VP0 VP1 VP2 NP0 LP0 LP1 LP2 LP3 LP4 IP0 IP1 VT0 NT0 NT1 LT0 IT0 x1).2.2.2.2.2.2.2.2.2.2.2.2.2.2.1) ((f_HaulFlows_run VH0 VS0 VS1 VS2 NS0 NS1 NS2 LS0 LS1 LS2 LS3 LS4 LS5 LS6 LS7 LS8 IS0 VY0 LY0 LY1 LY2 IY0 VP0 VP1 VP2 NP0 LP0 LP1 LP2 LP3 LP4 IP0 IP1 VT0 NT0 NT1 LT0 IT0 x1).2.2.2.2.2.2.2.2.2.2.2.2.2.2.2.1) ((f_HaulFlows_run VH0 VS0 VS1 VS2 NS0 NS1 NS2 LS0 LS1 LS2 LS3 LS4 LS5 LS6 LS7 LS8 IS0 VY0 LY0 LY1 LY2 IY0 VP0 VP1 VP2 NP0 LP0 LP1 LP2 LP3 LP4 IP0 IP1 VT0 NT0 NT1 LT0 IT0 x1).2.2.2.2.2.2.2.2.2.2.2.2.2.2.2.2.1) ((f_HaulFlows_run VH0 VS0 VS1 VS2 NS0 NS1 NS2 LS0 LS1 LS2 LS3 LS4 LS5 LS6 LS7 LS8 IS0 VY0 LY0 LY1 LY2 IY0 VP0 VP1 VP2 NP0 LP0 LP1 LP2 LP3 LP4 IP0 IP1 VT0 NT0 NT1 LT0 IT0 x1).2.2.2.2.2.2.2.2.2.2.2.2.2.2.2.2.2) aS) 0 0 := by
  unfold hh_Ci
  refine Met.ofW (cc := b_HaulFlows_run) (maxL := 2) (ret := (some .int)) (by decide) rfl ?_
  intro p e s m args below meth c s₁ B hml hv
  obtain ⟨rfl, hsz, hP, hK, hD0⟩ := hv
  have hx := B.exec
  have hb := B.bytes
  have hr := B.returns
  have hts := atoms_spec (ws := u_HaulFlows_run) B.pre
  have hG : ∀ w ∈ wG, w.before ([.ref (aH 0), .int x1]).toArray s = true := fun w h => hts w (List.mem_cons_of_mem _ h)
  have hown : s.vm.findClass R_HaulFlows = some m.cls := findClass_of_methodNamed B.named
  have hlocks := B.notSynchronized
  subst hsz
  have hD := hD0.self (sz := s.heap.size)
  generalize hAe : va_A (w_H cI cJ cZ aH VH0 aS aP aQ aT ++ w_S cI cJ cZ aS VS0 VS1 VS2 NS0 NS1 NS2 LS0 LS1 LS2 LS3 LS4 LS5 LS6 LS7 LS8 IS0 aY ++ w_Y cI cJ cZ aY VY0 LY0 LY1 LY2 IY0 ++ w_P cI cJ cZ aP VP0 VP1 VP2 NP0 LP0 LP1 LP2 LP3 LP4 IP0 IP1 aS ++ w_P cI cJ cZ aQ VQ0 VQ1 VQ2 NQ0 LQ0 LQ1 LQ2 LQ3 LQ4 IQ0 IQ1 aS ++ w_T cI cJ cZ aT VT0 NT0 NT1 LT0 IT0 aS) s.heap.size = A at hD ⊢
  have hA : ∀ q : Nat, s.heap.size ≤ q → A q := fun q h => by rw [← hAe]; exact Or.inr h
  have hS : va_S A s.heap s.heap [] := va_S.rf
  have hl := lv_entry ([.ref (aH 0), .int x1]) (n := 2) (Nat.le_of_ble_eq_true rfl)
  rw [lg_entry_eq]
  generalize (lg_sl ([.ref (aH 0), .int x1]) ++ List.replicate (2 - (lg_sl ([.ref (aH 0), .int x1])).length) Slot.unset).toArray = ls at hl ⊢
  have hl : lv_has ls 2 [(0, .ref (aH 0)), (1, .int x1)] := hl
  generalize hR : f_HaulFlows_run VH0 VS0 VS1 VS2 NS0 NS1 NS2 LS0 LS1 LS2 LS3 LS4 LS5 LS6 LS7 LS8 IS0 VY0 LY0 LY1 LY2 IY0 VP0 VP1 VP2 NP0 LP0 LP1 LP2 LP3 LP4 IP0 IP1 VT0 NT0 NT1 LT0 IT0 x1 = r0
  obtain ⟨H, locs, hHe, hle⟩ : ∃ (H : Heap) (locs : List Loc), s.heap = H ∧ [] = locs := ⟨_, _, rfl, rfl⟩
  have hP : va_P (dC, dI) vwCl (w_H cI cJ cZ aH VH0 aS aP aQ aT ++ w_S cI cJ cZ aS VS0 VS1 VS2 NS0 NS1 NS2 LS0 LS1 LS2 LS3 LS4 LS5 LS6 LS7 LS8 IS0 aY ++ w_Y cI cJ cZ aY VY0 LY0 LY1 LY2 IY0 ++ w_P cI cJ cZ aP VP0 VP1 VP2 NP0 LP0 LP1 LP2 LP3 LP4 IP0 IP1 aS ++ w_P cI cJ cZ aQ VQ0 VQ1 VQ2 NQ0 LQ0 LQ1 LQ2 LQ3 LQ4 IQ0 IQ1 aS ++ w_T cI cJ cZ aT VT0 NT0 NT1 LT0 IT0 aS) H := by rw [← hHe]; exact hP
  have hS : va_S A s.heap H locs := by rw [← hHe, ← hle]; exact hS
  refine hw_start hHe hle ?_
  unfold f_HaulFlows_run at hR
  refine lv_aload_n hx hb d_HaulFlows_run_0 rfl (lv_at hl 0 rfl) ?_
  refine va_get (D := (dC, dI)) (ci := 4) (v := .ref (aS 0)) (C := R_HaulFlows) (T := T_HaulFlows) (N := 5) hx hb hG in_HaulFlows hown hK hP 0 rfl rfl 0 (by decide) (hG _ m_196) (fun _ h9 => h9) rfl d_HaulFlows_run_1 ?_
  obtain ⟨y4, hy4, hR⟩ := hw_bind hR
  have hM := c_Site_sources l dC dI cI cJ cZ H.size aS VS0 VS1 VS2 NS0 NS1 NS2 LS0 LS1 LS2 LS3 LS4 LS5 LS6 LS7 LS8 IS0 aY VY0 LY0 LY1 LY2 IY0
  rw [hy4] at hM
  refine hw_callVi (As := []) (rest := []) (wr := w_H cI cJ cZ aH VH0 aS aP aQ aT ++ w_P cI cJ cZ aP VP0 VP1 VP2 NP0 LP0 LP1 LP2 LP3 LP4 IP0 IP1 aS ++ w_P cI cJ cZ aQ VQ0 VQ1 VQ2 NQ0 LQ0 LQ1 LQ2 LQ3 LQ4 IQ0 IQ1 aS ++ w_T cI cJ cZ aT VT0 NT0 NT1 LT0 IT0 aS) ⟨hx, hb, hml, hown, hG⟩ hM (hw_cwV 0 hG m_291 m_292 m_293 m_2 m_294 rfl rfl (by decide +kernel) ⟨Nat.le_of_ble_eq_true rfl, Nat.le_of_ble_eq_true rfl⟩) hK hP hD hS hA [1, 2, 3, 4, 5, 6, 7, 8, 9, 10, 11, 12, 13, 14, 15, 16, 17, 18, 19] [0, 20, 21, 22, 23, 24, 25, 26, 27, 28, 29, 30, 31, 32, 33, 34, 35, 36, 37, 38, 39, 40, 41, 42] rfl rfl (by decide) (by decide) (by decide) (hw_recv hK hP 1 rfl rfl) rfl hl.1 rfl (Nat.le_of_ble_eq_true rfl) d_HaulFlows_run_4 ⟨Nat.le_of_ble_eq_true rfl, Nat.le_of_ble_eq_true rfl⟩ (fun H locs hP hD hS => ?_)
  have hP : va_P (dC, dI) vwCl (w_H cI cJ cZ aH VH0 aS aP aQ aT ++ w_S cI cJ cZ aS VS0 VS1 VS2 NS0 NS1 NS2 LS0 LS1 LS2 LS3 LS4 LS5 LS6 LS7 LS8 IS0 aY ++ w_Y cI cJ cZ aY VY0 LY0 LY1 LY2 IY0 ++ w_P cI cJ cZ aP VP0 VP1 VP2 NP0 LP0 LP1 LP2 LP3 LP4 IP0 IP1 aS ++ w_P cI cJ cZ aQ VQ0 VQ1 VQ2 NQ0 LQ0 LQ1 LQ2 LQ3 LQ4 IQ0 IQ1 aS ++ w_T cI cJ cZ aT VT0 NT0 NT1 LT0 IT0 aS) H := hP.sub [0, 24, 25, 26, 27, 28, 29, 30, 31, 32, 33, 34, 35, 36, 37, 38, 39, 40, 41, 42, 1, 2, 3, 4, 5, 6, 7, 8, 9, 10, 11, 12, 13, 14, 15, 16, 17, 18, 19, 20, 21, 22, 23] rfl
  have hD : va_D A (w_H cI cJ cZ aH VH0 aS aP aQ aT ++ w_S cI cJ cZ aS VS0 VS1 VS2 NS0 NS1 NS2 LS0 LS1 LS2 LS3 LS4 LS5 LS6 LS7 LS8 IS0 aY ++ w_Y cI cJ cZ aY VY0 LY0 LY1 LY2 IY0 ++ w_P cI cJ cZ aP VP0 VP1 VP2 NP0 LP0 LP1 LP2 LP3 LP4 IP0 IP1 aS ++ w_P cI cJ cZ aQ VQ0 VQ1 VQ2 NQ0 LQ0 LQ1 LQ2 LQ3 LQ4 IQ0 IQ1 aS ++ w_T cI cJ cZ aT VT0 NT0 NT1 LT0 IT0 aS) := hD.sub [0, 24, 25, 26, 27, 28, 29, 30, 31, 32, 33, 34, 35, 36, 37, 38, 39, 40, 41, 42, 1, 2, 3, 4, 5, 6, 7, 8, 9, 10, 11, 12, 13, 14, 15, 16, 17, 18, 19, 20, 21, 22, 23] (by decide) rfl
  have hs4 : y4 = VS0 + VS1 := by rw [← hy4]; rfl
  refine lv_aload_n hx hb d_HaulFlows_run_7 rfl (lv_at hl 0 rfl) ?_
  refine va_get (D := (dC, dI)) (ci := 4) (v := .ref (aS 0)) (C := R_HaulFlows) (T := T_HaulFlows) (N := 5) hx hb hG in_HaulFlows hown hK hP 0 rfl rfl 0 (by decide) (hG _ m_196) (fun _ h9 => h9) rfl d_HaulFlows_run_8 ?_
  refine va_get (D := (dC, dI)) (ci := 2) (v := .int (nI VS2)) (C := R_Site) (T := T_Site) (N := 17) hx hb hG in_Site hown hK hP 1 rfl rfl 2 (by decide) (hG _ m_62) (fun _ h9 => h9) rfl d_HaulFlows_run_11 ?_
  refine hw_imul hx hb d_HaulFlows_run_14 ?_
  refine lv_iload_n hx hb d_HaulFlows_run_15 rfl (lv_at hl 1 rfl) ?_
  refine lv_icmp_le (tgt := 29) hx hb d_HaulFlows_run_16 (by decide) (fun c16 => ?_) (fun c16 => ?_)
  · replace hR := (if_pos c16).symm.trans hR
    refine lv_aload_n hx hb d_HaulFlows_run_29 rfl (lv_at hl 0 rfl) ?_
    refine va_get (D := (dC, dI)) (ci := 4) (v := .int (nI VH0)) (C := R_HaulFlows) (T := T_HaulFlows) (N := 5) hx hb hG in_HaulFlows hown hK hP 0 rfl rfl 4 (by decide) (hG _ m_200) (fun _ h9 => h9) rfl d_HaulFlows_run_30 ?_
    refine hw_if_ne (tgt := 44) hx hb d_HaulFlows_run_33 (by decide) (by omega) (fun c33 => ?_) (fun c33 => ?_)
    · replace hR := (if_neg c33).symm.trans hR
      refine lv_aload_n hx hb d_HaulFlows_run_44 rfl (lv_at hl 0 rfl) ?_
      refine va_get (D := (dC, dI)) (ci := 4) (v := .int (nI VH0)) (C := R_HaulFlows) (T := T_HaulFlows) (N := 5) hx hb hG in_HaulFlows hown hK hP 0 rfl rfl 4 (by decide) (hG _ m_200) (fun _ h9 => h9) rfl d_HaulFlows_run_45 ?_
      refine lv_iconst (v := nI 1) hx hb d_HaulFlows_run_48 (by decide) ?_
      refine hw_icmp_ne (tgt := 56) hx hb d_HaulFlows_run_49 (by decide) (by omega) (by omega) (fun c49 => ?_) (fun c49 => ?_)
      · replace hR := (if_neg c49).symm.trans hR
        refine lv_iconst (v := nI 1) hx hb d_HaulFlows_run_56 (by decide) ?_
        subst hR
        exact W.iret (v := nI 1) hx hb hr (fun t ht hW => ⟨⟨_, (), rfl, rfl, by rw [ht]; exact hP, va_K.moved hW.alike hK, hD⟩, hS.F ht⟩) hS.2.2 d_HaulFlows_run_57
      · replace hR := (if_pos c49).symm.trans hR
        refine lv_iconst (v := nI 0) hx hb d_HaulFlows_run_52 (by decide) ?_
        refine lv_goto (tgt := 57) hx hb d_HaulFlows_run_53 (by decide) ?_
        subst hR
        exact W.iret (v := nI 0) hx hb hr (fun t ht hW => ⟨⟨_, (), rfl, rfl, by rw [ht]; exact hP, va_K.moved hW.alike hK, hD⟩, hS.F ht⟩) hS.2.2 d_HaulFlows_run_57
    · replace hR := (if_pos c33).symm.trans hR
      refine lv_aload_n hx hb d_HaulFlows_run_36 rfl (lv_at hl 0 rfl) ?_
      refine lv_aload_n hx hb d_HaulFlows_run_37 rfl (lv_at hl 0 rfl) ?_
      obtain ⟨y38, hy38, hR⟩ := hw_bind hR
      have hM := c_HaulFlows_workOut l dC dI cI cJ cZ H.size aH VH0 aS VS0 VS1 VS2 NS0 NS1 NS2 LS0 LS1 LS2 LS3 LS4 LS5 LS6 LS7 LS8 IS0 aY VY0 LY0 LY1 LY2 IY0 aP VP0 VP1 VP2 NP0 LP0 LP1 LP2 LP3 LP4 IP0 IP1 aQ VQ0 VQ1 VQ2 NQ0 LQ0 LQ1 LQ2 LQ3 LQ4 IQ0 IQ1 aT VT0 NT0 NT1 LT0 IT0 (by first | assumption | omega) (by first | assumption | omega) (by first | assumption | omega) (by first | assumption | omega) (by first | assumption | omega) (by first | assumption | omega) (by first | assumption | omega) (by first | assumption | omega) (by first | assumption | omega)
      rw [hy38] at hM
      refine hw_callVi (As := []) (rest := [.ref (aH 0)]) (wr := ([] : va_W)) ⟨hx, hb, hml, hown, hG⟩ hM (hw_cwV 0 hG m_539 m_541 mp_10 m_1 m_542 rfl rfl (by decide +kernel) ⟨Nat.le_of_ble_eq_true rfl, Nat.le_of_ble_eq_true rfl⟩) hK hP hD hS hA [0, 1, 2, 3, 4, 5, 6, 7, 8, 9, 10, 11, 12, 13, 14, 15, 16, 17, 18, 19, 20, 21, 22, 23, 24, 25, 26, 27, 28, 29, 30, 31, 32, 33, 34, 35, 36, 37, 38, 39, 40, 41, 42] [] rfl rfl (by decide) (by decide) (by decide) (hw_recv hK hP 0 rfl rfl) rfl hl.1 rfl (Nat.le_of_ble_eq_true rfl) d_HaulFlows_run_38 ⟨Nat.le_of_ble_eq_true rfl, Nat.le_of_ble_eq_true rfl⟩ (fun H locs hP hD hS => ?_)
      have hP : va_P (dC, dI) vwCl (w_H cI cJ cZ aH VH0 aS aP aQ aT ++ w_S cI cJ cZ aS VS0 VS1 VS2 NS0 NS1 NS2 LS0 LS1 LS2 LS3 LS4 LS5 LS6 LS7 LS8 IS0 aY ++ w_Y cI cJ cZ aY VY0 LY0 LY1 LY2 IY0 ++ w_P cI cJ cZ aP y38.2.1 y38.2.2.1 y38.2.2.2.1 y38.2.2.2.2.1 y38.2.2.2.2.2.1 y38.2.2.2.2.2.2.1 y38.2.2.2.2.2.2.2.1 y38.2.2.2.2.2.2.2.2.1 y38.2.2.2.2.2.2.2.2.2.1 y38.2.2.2.2.2.2.2.2.2.2.1 y38.2.2.2.2.2.2.2.2.2.2.2.1 aS ++ w_P cI cJ cZ aQ VQ0 VQ1 VQ2 NQ0 LQ0 LQ1 LQ2 LQ3 LQ4 IQ0 IQ1 aS ++ w_T cI cJ cZ aT y38.2.2.2.2.2.2.2.2.2.2.2.2.1 y38.2.2.2.2.2.2.2.2.2.2.2.2.2.1 y38.2.2.2.2.2.2.2.2.2.2.2.2.2.2.1 y38.2.2.2.2.2.2.2.2.2.2.2.2.2.2.2.1 y38.2.2.2.2.2.2.2.2.2.2.2.2.2.2.2.2 aS) H := hP
      have hD : va_D A (w_H cI cJ cZ aH VH0 aS aP aQ aT ++ w_S cI cJ cZ aS VS0 VS1 VS2 NS0 NS1 NS2 LS0 LS1 LS2 LS3 LS4 LS5 LS6 LS7 LS8 IS0 aY ++ w_Y cI cJ cZ aY VY0 LY0 LY1 LY2 IY0 ++ w_P cI cJ cZ aP y38.2.1 y38.2.2.1 y38.2.2.2.1 y38.2.2.2.2.1 y38.2.2.2.2.2.1 y38.2.2.2.2.2.2.1 y38.2.2.2.2.2.2.2.1 y38.2.2.2.2.2.2.2.2.1 y38.2.2.2.2.2.2.2.2.2.1 y38.2.2.2.2.2.2.2.2.2.2.1 y38.2.2.2.2.2.2.2.2.2.2.2.1 aS ++ w_P cI cJ cZ aQ VQ0 VQ1 VQ2 NQ0 LQ0 LQ1 LQ2 LQ3 LQ4 IQ0 IQ1 aS ++ w_T cI cJ cZ aT y38.2.2.2.2.2.2.2.2.2.2.2.2.1 y38.2.2.2.2.2.2.2.2.2.2.2.2.2.1 y38.2.2.2.2.2.2.2.2.2.2.2.2.2.2.1 y38.2.2.2.2.2.2.2.2.2.2.2.2.2.2.2.1 y38.2.2.2.2.2.2.2.2.2.2.2.2.2.2.2.2 aS) := hD
      have hwo38 := f_HaulFlows_workOut_le VS0 VS1 VS2 NS0 NS1 NS2 LS0 LS1 LS2 LS3 LS4 LS5 LS6 LS7 LS8 IS0 VY0 LY0 LY1 LY2 IY0 VP0 VP1 VP2 NP0 LP0 LP1 LP2 LP3 LP4 IP0 IP1 VT0 NT0 NT1 LT0 IT0
      rw [hy38] at hwo38
      refine va_put (D := (dC, dI)) (ci := 4) (v := .int (nI y38.1)) (ty := .int) (C := R_HaulFlows) (T := T_HaulFlows) (N := 5) hx hb hG in_HaulFlows ty_HaulFlows tok_HaulFlows nok_HaulFlows hown hK hP hD hS 0 rfl rfl 4 (by decide) (hG _ m_200) (fun _ h9 => h9) rfl (by decide +kernel) rfl rfl (Nat.le_of_ble_eq_true rfl) d_HaulFlows_run_41 (fun H locs hP hD hS => ?_)
      have hP : va_P (dC, dI) vwCl (w_H cI cJ cZ aH y38.1 aS aP aQ aT ++ w_S cI cJ cZ aS VS0 VS1 VS2 NS0 NS1 NS2 LS0 LS1 LS2 LS3 LS4 LS5 LS6 LS7 LS8 IS0 aY ++ w_Y cI cJ cZ aY VY0 LY0 LY1 LY2 IY0 ++ w_P cI cJ cZ aP y38.2.1 y38.2.2.1 y38.2.2.2.1 y38.2.2.2.2.1 y38.2.2.2.2.2.1 y38.2.2.2.2.2.2.1 y38.2.2.2.2.2.2.2.1 y38.2.2.2.2.2.2.2.2.1 y38.2.2.2.2.2.2.2.2.2.1 y38.2.2.2.2.2.2.2.2.2.2.1 y38.2.2.2.2.2.2.2.2.2.2.2.1 aS ++ w_P cI cJ cZ aQ VQ0 VQ1 VQ2 NQ0 LQ0 LQ1 LQ2 LQ3 LQ4 IQ0 IQ1 aS ++ w_T cI cJ cZ aT y38.2.2.2.2.2.2.2.2.2.2.2.2.1 y38.2.2.2.2.2.2.2.2.2.2.2.2.2.1 y38.2.2.2.2.2.2.2.2.2.2.2.2.2.2.1 y38.2.2.2.2.2.2.2.2.2.2.2.2.2.2.2.1 y38.2.2.2.2.2.2.2.2.2.2.2.2.2.2.2.2 aS) H := hP
      have hD : va_D A (w_H cI cJ cZ aH y38.1 aS aP aQ aT ++ w_S cI cJ cZ aS VS0 VS1 VS2 NS0 NS1 NS2 LS0 LS1 LS2 LS3 LS4 LS5 LS6 LS7 LS8 IS0 aY ++ w_Y cI cJ cZ aY VY0 LY0 LY1 LY2 IY0 ++ w_P cI cJ cZ aP y38.2.1 y38.2.2.1 y38.2.2.2.1 y38.2.2.2.2.1 y38.2.2.2.2.2.1 y38.2.2.2.2.2.2.1 y38.2.2.2.2.2.2.2.1 y38.2.2.2.2.2.2.2.2.1 y38.2.2.2.2.2.2.2.2.2.1 y38.2.2.2.2.2.2.2.2.2.2.1 y38.2.2.2.2.2.2.2.2.2.2.2.1 aS ++ w_P cI cJ cZ aQ VQ0 VQ1 VQ2 NQ0 LQ0 LQ1 LQ2 LQ3 LQ4 IQ0 IQ1 aS ++ w_T cI cJ cZ aT y38.2.2.2.2.2.2.2.2.2.2.2.2.1 y38.2.2.2.2.2.2.2.2.2.2.2.2.2.1 y38.2.2.2.2.2.2.2.2.2.2.2.2.2.2.1 y38.2.2.2.2.2.2.2.2.2.2.2.2.2.2.2.1 y38.2.2.2.2.2.2.2.2.2.2.2.2.2.2.2.2 aS) := hD
      refine lv_aload_n hx hb d_HaulFlows_run_44 rfl (lv_at hl 0 rfl) ?_
      refine va_get (D := (dC, dI)) (ci := 4) (v := .int (nI y38.1)) (C := R_HaulFlows) (T := T_HaulFlows) (N := 5) hx hb hG in_HaulFlows hown hK hP 0 rfl rfl 4 (by decide) (hG _ m_200) (fun _ h9 => h9) rfl d_HaulFlows_run_45 ?_
      refine lv_iconst (v := nI 1) hx hb d_HaulFlows_run_48 (by decide) ?_
      refine hw_icmp_ne (tgt := 56) hx hb d_HaulFlows_run_49 (by decide) (by omega) (by omega) (fun c49 => ?_) (fun c49 => ?_)
      · replace hR := (if_neg c49).symm.trans hR
        refine lv_iconst (v := nI 1) hx hb d_HaulFlows_run_56 (by decide) ?_
        subst hR
        exact W.iret (v := nI 1) hx hb hr (fun t ht hW => ⟨⟨_, (), rfl, rfl, by rw [ht]; exact hP, va_K.moved hW.alike hK, hD⟩, hS.F ht⟩) hS.2.2 d_HaulFlows_run_57
      · replace hR := (if_pos c49).symm.trans hR
        refine lv_iconst (v := nI 0) hx hb d_HaulFlows_run_52 (by decide) ?_
        refine lv_goto (tgt := 57) hx hb d_HaulFlows_run_53 (by decide) ?_
        subst hR
        exact W.iret (v := nI 0) hx hb hr (fun t ht hW => ⟨⟨_, (), rfl, rfl, by rw [ht]; exact hP, va_K.moved hW.alike hK, hD⟩, hS.F ht⟩) hS.2.2 d_HaulFlows_run_57
  · replace hR := (if_neg c16).symm.trans hR
    rw [hs4] at c16
    exact absurd hsteps c16
def hx_ISE : String := "java/lang/IllegalStateException"
def hx_up : List String := ["java/lang/RuntimeException", "java/lang/Exception"]
def hx_at : List Cond := Bundle.ownAtoms "HaulFlows" 118 hx_ISE hx_up
def hx_St (u U : State) : Prop := ∀ (q : Nat) (cell : Cell), u.heap[q]? = some cell → cell.vm.isStatics = true → U.heap[q]? = some cell
theorem hx_lays {u U : State} {o n d : String} {a a' : Array Value} (hv : u.vm = U.vm) (hh : hx_St u U) (h : (Cond.laysStatic o n d).before a u = true) : (Cond.laysStatic o n d).before a' U = true := by
  have ef : U.fieldFound? o n d = u.fieldFound? o n d := by simp only [State.fieldFound?, hv]
  simp only [Cond.before, Cond.holds, Cond.value] at h ⊢
  rw [ef, ← hv]
  cases h1 : u.vm.findClass o with
  | none => simp [h1] at h
  | some c =>
    cases h2 : u.fieldFound? o n d with
    | none => simp [h1, h2] at h
    | some q =>
      obtain ⟨c', k, i, f⟩ := q
      simp only [h1, h2] at h ⊢
      cases h3 : k.statics with
      | none => simp [h3] at h
      | some b =>
        simp only [h3, Option.bind_some] at h ⊢
        cases h4 : u.heap[b]? with
        | none => simp [h4] at h
        | some cell =>
          rw [h4] at h
          have hs : cell.vm.isStatics = true := by
            simp only [Option.map_some, beq_iff_eq, Option.some.injEq, Bool.and_eq_true] at h
            exact h.1.1.1.2
          rw [hh b cell h4 hs]
          exact h
theorem hx_isRef {u U : State} {o n d : String} {a a' : Array Value} (hv : u.vm = U.vm) (hh : hx_St u U) (h : (Cond.isRef (.static o n d)).before a u = true) : (Cond.isRef (.static o n d)).before a' U = true := by
  have ef : U.fieldNamed? o n d true = u.fieldNamed? o n d true := by simp only [State.fieldNamed?, State.fieldFound?, hv]
  simp only [Cond.before, Cond.holds, Cond.value, Term.eval] at h ⊢
  rw [ef]
  cases h1 : u.fieldNamed? o n d true with
  | none => simp [h1] at h
  | some q =>
    obtain ⟨c, k, i⟩ := q
    simp only [h1, Option.bind_eq_bind, Option.bind_some] at h ⊢
    cases h3 : k.statics with
    | none => simp [h3] at h
    | some b =>
      simp only [h3, Option.bind_some] at h ⊢
      cases h4 : u.heap[b]? with
      | none => simp [h4] at h
      | some cell =>
        simp only [h4, Option.bind_some] at h
        have hs : cell.vm.isStatics = true := by
          cases hq : cell.vm.isStatics with
          | true => rfl
          | false => simp [hq] at h
        rw [hh b cell h4 hs]
        exact h
def hx_good (w : Cond) : Bool := (w.onTables && w.keeps) || (match w with | .declares _ => true | .castable _ _ => true | .laysStatic _ _ _ => true | .isRef (.static _ _ _) => true | _ => false)
theorem hx_all : hx_at.all hx_good = true := by decide +kernel
theorem hx_move {s U : State} (hW : s.WarmedH U.vm) (hh : hx_St s U) {w : Cond} (hg : hx_good w = true) {a a' : Array Value} (h : w.before a s = true) : w.before a' U = true := by
  unfold hx_good at hg
  rw [Bool.or_eq_true] at hg
  rcases hg with hg | hg
  · exact word_at hW (Or.inl hg) h
  · have hh' : hx_St (s.setVm U.vm) U := hh
    split at hg
    · exact va_tabs (u := s.setVm U.vm) rfl rfl (Cond.before_warmed hW _ trivial h)
    · exact va_tabs (u := s.setVm U.vm) rfl rfl (Cond.before_warmed hW _ trivial h)
    · exact hx_lays (u := s.setVm U.vm) rfl hh' (Cond.before_warmed hW _ rfl h)
    · exact hx_isRef (u := s.setVm U.vm) rfl hh' (Cond.before_warmed hW _ rfl h)
    · cases hg
def hx_Th (U : State) : Prop := (∀ w ∈ hx_at, w.before #[] U = true) ∧ ∃ a, vk_R "HaulFlows" 116 "sources times fills are more than steps" a U
theorem hx_Th.moved {s U : State} (hW : s.WarmedH U.vm) (hh : hx_St s U) (h : hx_Th s) : hx_Th U :=
  ⟨fun w hw => hx_move hW hh (List.all_eq_true.mp hx_all w hw) (h.1 w hw), h.2.imp fun a ha => ha.warm hW⟩
theorem hx_Th.calling {U : State} {g : JFrame} {mk : MethodId} {a : Array Value} (h : hx_Th U) : hx_Th (U.calling g mk a) :=
  hx_Th.moved (s := U) (State.WarmedH.refl U) (fun _ _ h1 _ => h1) h
def hx_Q : Array Value → State → Outcome → State → Prop := fun _ st o t => ∃ (x : Nat) (ce : Cell), o = .threw x ∧ st.heap.size ≤ x ∧ st.WarmedH t.vm ∧ st.sameButNew ({ t with vm := st.vm } : State) [] 1 6 ∧ t.heap[x]? = some ce ∧ ce.vm = .none ∧ st.vm.findClass hx_ISE = some ce.cls ∧ st.vm.assignable ce.cls ce.cls = true
def hx_Z (below : List Frame) (a : Array Value) (s : State) : State → Prop := fun t => ∃ o, t.status = .running ∧ Ended t below o ∧ hx_Q a s o t
set_option maxHeartbeats 4000000 in
theorem hx_throw {p : Program} {l : Launch} {e : Env} {R : Room} {s : State} {m : MethodId} {args : Array Value} {below : List Frame} {meth : Method} {c : Code} {ls : Array Slot} (hexec : p.tables.exec = Jvm.exec) (hb : c.code = b_HaulFlows_run) (hf : l.flags = pinnedFlags ++ [noTraceFlag]) (hown : s.vm.findClass "HaulFlows" = some m.cls) (hG : ∀ w ∈ wG, w.before args s = true) (hTh : hx_Th s)
    (hout : ∀ x ∈ c.exceptionTable.toList, covers x 28 = false) (hlocks : meth.locks = false) (hR : 1 ≤ R.cells ∧ 6 ≤ R.slots ∧ 6 ≤ R.frames ∧ 90 ≤ R.locals) (hsize : ls.size = c.maxLocals) : W p l e R s m args below meth c s.heap [] 0 0 (hx_Z below args s) (F0 m 19 ls []) := by
  intro T hT X
  have htr := Launch.traces_off hf X.admits
  obtain ⟨vm₁, cX, kX, hfX, hkX, -, -, X₁, st1⟩ := X.newCold hexec (own := "HaulFlows") (C := hx_ISE) (index := 114) (n := 6) hown (hG _ m_473) (hG _ m_474) (hG _ m_11) (g := F0 m 19 ls []) rfl (by rw [hb]; exact d_HaulFlows_run_19) (by omega) (by omega)
  generalize hT1 : (T.setVm vm₁).pushCell { cls := cX, slots := kX.instanceTypes.map defaultValue, vm := .none } = T1 at X₁ st1
  have hcellA : T1.heap[T.heap.size]? = some (freshCell cX kX) := by rw [← hT1]; exact State.heap_pushCell_size _ _
  obtain ⟨hat, sa, hk1, hk2⟩ := hTh
  have hconst : (Cond.stringRef "HaulFlows" 116 "sources times fills are more than steps").before args s = true := hk1
  have hev : (Term.string "HaulFlows" 116).eval args s none [] s = some (.ref sa) := hk2
  obtain ⟨U, hsteps, hrun, hend, hW, hsame, ce, hce, K⟩ := X₁.ctorThrowS hexec htr (own := "HaulFlows") (cls := hx_ISE) (names := hx_up) (ic := 118) hown (by decide +kernel) (by decide +kernel)
    (fun y hy => hx_move (s := s) (U := s) (State.WarmedH.refl s) (fun _ _ h _ => h) (List.all_eq_true.mp hx_all y hy) (hat y hy)) (fun y hy => by cases hy) hfX hkX hcellA (by rw [hT]; exact Nat.le_refl _) (msg := .ref sa) rfl
    (g := F0 m 25 ls [.ref sa, .ref T.heap.size, .ref T.heap.size]) rfl hsize rfl rfl (rest := []) rfl (by rw [hb]; exact d_HaulFlows_run_25) (by rw [hb]; exact d_HaulFlows_run_28) hout
    (by show 2 + 3 < R.frames; omega) (by show 2 * 0 + 1 + (13 * (2 + 1) + 42) ≤ R.locals; omega) hlocks
  refine ⟨U, ?_, .threw T.heap.size, hrun, hend, T.heap.size, ce, rfl, by rw [hT]; exact Nat.le_refl _, hW, hsame, hce, K.vm, K.cls, K.self⟩
  refine st1 _ ?_
  show Steps p.tables e below (T1.setTop (F0 m 22 ls [.ref T.heap.size])) _
  jvm_step X₁.here [X₁.here.top, hexec, hb, d_HaulFlows_run_22, Value.category]
  exact X₁.ldcString hexec (own := "HaulFlows") (text := "sources times fills are more than steps") (index := 116) (a := sa) hown hconst hev (g := F0 m 23 ls [.ref T.heap.size, .ref T.heap.size]) rfl (by rw [hb]; exact d_HaulFlows_run_23) _ hsteps
/-- sources() reads, and does nothing else -/
theorem c0_Site_sources (l : Launch) (dC : Nat → ClassId) (dI : Nat → Nat → Nat) (cI cJ cZ : ClassId) (aS : Nat → Nat) (VS0 : Nat) (VS1 : Nat) (VS2 : Nat) (NS0 : Nat → Nat) (NS1 : Nat → Nat) (NS2 : Nat → Nat) (LS0 : Nat → Int64) (LS1 : Nat → Int64) (LS2 : Nat → Int64) (LS3 : Nat → Int64) (LS4 : Nat → Int64) (LS5 : Nat → Int64) (LS6 : Nat → Int64) (LS7 : Nat → Int64) (LS8 : Nat → Int64) (IS0 : Nat → Int32) (aY : Nat → Nat) (VY0 : Nat) (LY0 : Nat → Int64) (LY1 : Nat → Int64) (LY2 : Nat → Int64) (IY0 : Nat → Int32) (H0 : Heap) : Met l y_Site_sources u_Site_sources ({ frames := 0, cells := 0, slots := 0, locals := 0 }) (va_Pc [.ref (aS 0)] (fun U => U.heap = H0 ∧ va_P (dC, dI) vwCl (w_S cI cJ cZ aS VS0 VS1 VS2 NS0 NS1 NS2 LS0 LS1 LS2 LS3 LS4 LS5 LS6 LS7 LS8 IS0 aY ++ w_Y cI cJ cZ aY VY0 LY0 LY1 LY2 IY0) U.heap ∧ va_K (dC, dI) vwCl [(cI, .int), (cJ, .long), (cZ, .boolean)] U)) (va_Qi (fun v (_ : Unit) => v = nI (VS0 + VS1)) (fun _ t => t.heap = H0) (fun _ => False)) 0 0 (fun _ => False) := by
  refine Met.ofW (cc := b_Site_sources) (maxL := 1) (ret := (some .int)) (by decide) rfl ?_
  intro p e s m args below meth c s₁ B hml hv
  obtain ⟨rfl, hH0, hP, hK⟩ := hv
  have hx := B.exec
  have hb := B.bytes
  have hr := B.returns
  have hts := atoms_spec (ws := u_Site_sources) B.pre
  have hG : ∀ w ∈ wG, w.before ([.ref (aS 0)]).toArray s = true := fun w h => hts w (List.mem_cons_of_mem _ h)
  have hown : s.vm.findClass R_Site = some m.cls := findClass_of_methodNamed B.named
  have hlocks := B.notSynchronized
  have hl := lv_entry ([.ref (aS 0)]) (n := 1) (Nat.le_of_ble_eq_true rfl)
  rw [lg_entry_eq]
  generalize (lg_sl ([.ref (aS 0)]) ++ List.replicate (1 - (lg_sl ([.ref (aS 0)])).length) Slot.unset).toArray = ls at hl ⊢
  have hl : lv_has ls 1 [(0, .ref (aS 0))] := hl
  refine lv_aload_n hx hb d_Site_sources_0 rfl (lv_at hl 0 rfl) ?_
  refine va_get (D := (dC, dI)) (ci := 2) (v := .int (nI VS0)) (C := R_Site) (T := T_Site) (N := 17) hx hb hG in_Site hown hK hP 0 rfl rfl 0 (by decide) (hG _ m_56) (fun _ h9 => h9) rfl d_Site_sources_1 ?_
  refine lv_aload_n hx hb d_Site_sources_4 rfl (lv_at hl 0 rfl) ?_
  refine va_get (D := (dC, dI)) (ci := 2) (v := .int (nI VS1)) (C := R_Site) (T := T_Site) (N := 17) hx hb hG in_Site hown hK hP 0 rfl rfl 1 (by decide) (hG _ m_58) (fun _ h9 => h9) rfl d_Site_sources_5 ?_
  refine hw_iadd hx hb d_Site_sources_8 ?_
  exact W.iret (v := nI (VS0 + VS1)) hx hb hr (fun t ht hW => ⟨⟨_, (), rfl, rfl, ht.trans hH0⟩, by rw [ht]; exact Nat.le_refl _, fun q _ _ => by rw [ht]⟩) (fun q h => by cases h) d_Site_sources_9
set_option maxHeartbeats 4000000 in
/-- run() throws where sources times fills are more than steps, and leaves all as it was -/
theorem ct_HaulFlows_run (l : Launch) (hf : l.flags = pinnedFlags ++ [noTraceFlag]) (dC : Nat → ClassId) (dI : Nat → Nat → Nat) (cI cJ cZ : ClassId) (aH : Nat → Nat) (VH0 : Nat) (aS : Nat → Nat) (VS0 : Nat) (VS1 : Nat) (VS2 : Nat) (NS0 : Nat → Nat) (NS1 : Nat → Nat) (NS2 : Nat → Nat) (LS0 : Nat → Int64) (LS1 : Nat → Int64) (LS2 : Nat → Int64) (LS3 : Nat → Int64) (LS4 : Nat → Int64) (LS5 : Nat → Int64) (LS6 : Nat → Int64) (LS7 : Nat → Int64) (LS8 : Nat → Int64) (IS0 : Nat → Int32) (aY : Nat → Nat) (VY0 : Nat) (LY0 : Nat → Int64) (LY1 : Nat → Int64) (LY2 : Nat → Int64) (IY0 : Nat → Int32) (aP : Nat → Nat) (aQ : Nat → Nat) (aT : Nat → Nat) (x1 : Int32) (hsteps : ¬ nI ((VS0 + VS1) * VS2) ≤ x1) : MetFree l y_HaulFlows_run (headSpec u_HaulFlows_run ({ frames := 6, cells := 1, slots := 6, locals := 147 })) (va_Pc [.ref (aH 0), .int x1] (fun U => va_P (dC, dI) vwCl (w_H cI cJ cZ aH VH0 aS aP aQ aT ++ w_S cI cJ cZ aS VS0 VS1 VS2 NS0 NS1 NS2 LS0 LS1 LS2 LS3 LS4 LS5 LS6 LS7 LS8 IS0 aY ++ w_Y cI cJ cZ aY VY0 LY0 LY1 LY2 IY0) U.heap ∧ va_K (dC, dI) vwCl [(cI, .int), (cJ, .long), (cZ, .boolean)] U ∧ hx_Th U)) (fun _ _ _ _ _ => True) hx_Q := by
  refine MetFree.of_bodyS (code := b_HaulFlows_run) (maxLocals := 2) (ret := some .int) (by decide) ?_ ?_
  · intro args s m h hn
    obtain ⟨meth, c, h1, h2, h3, h4, h5, h6, -, -⟩ := Cond.code_spec hn (atoms_spec (ws := u_HaulFlows_run) h _ List.mem_cons_self)
    exact ⟨meth, c, h1, h2, h3, h4, h5, h6⟩
  · intro p e s m args below meth c s₁ B hml hv _
    obtain ⟨rfl, hP, hK, hTh⟩ := hv
    have hx := B.exec
    have hb := B.bytes
    have hts := atoms_spec (ws := u_HaulFlows_run) B.pre
    have hG : ∀ w ∈ wG, w.before ([.ref (aH 0), .int x1]).toArray s = true := fun w h => hts w (List.mem_cons_of_mem _ h)
    have hown : s.vm.findClass R_HaulFlows = some m.cls := findClass_of_methodNamed B.named
    have hlocks := B.notSynchronized
    have hout := covers_of_empty (B.noHandlers (hts _ List.mem_cons_self)) 28
    suffices K : W p l e (headSpec u_HaulFlows_run ({ frames := 6, cells := 1, slots := 6, locals := 147 })).room s m ([.ref (aH 0), .int x1] : List Value).toArray below meth c s.heap [] 0 0 (hx_Z below ([.ref (aH 0), .int x1] : List Value).toArray s) (entryFrame m ([.ref (aH 0), .int x1] : List Value).toArray 2) by
      have hh0 : s₁.heap = s.heap := by rw [B.state]; rfl
      obtain ⟨t, a1, o, b1, b2, b3⟩ := K s₁ hh0 (Stand.of_body B)
      exact ⟨t, o, a1, b1, b2, b3⟩
    have hl := lv_entry ([.ref (aH 0), .int x1]) (n := 2) (Nat.le_of_ble_eq_true rfl)
    rw [lg_entry_eq]
    generalize (lg_sl ([.ref (aH 0), .int x1]) ++ List.replicate (2 - (lg_sl ([.ref (aH 0), .int x1])).length) Slot.unset).toArray = ls at hl ⊢
    have hl : lv_has ls 2 [(0, .ref (aH 0)), (1, .int x1)] := hl
    refine lv_aload_n hx hb d_HaulFlows_run_0 rfl (lv_at hl 0 rfl) ?_
    refine va_get (D := (dC, dI)) (ci := 4) (v := .ref (aS 0)) (C := R_HaulFlows) (T := T_HaulFlows) (N := 5) hx hb hG in_HaulFlows hown hK hP 0 rfl rfl 0 (by decide) (hG _ m_196) (fun _ h9 => h9) rfl d_HaulFlows_run_1 ?_
    have hM := c0_Site_sources l dC dI cI cJ cZ aS VS0 VS1 VS2 NS0 NS1 NS2 LS0 LS1 LS2 LS3 LS4 LS5 LS6 LS7 LS8 IS0 aY VY0 LY0 LY1 LY2 IY0 s.heap
    have hr := va_runV (below := below) (e := e) (meth := meth) (locs := []) (cells := 0) (slots := 0) (R := (headSpec u_HaulFlows_run ({ frames := 6, cells := 1, slots := 6, locals := 147 })).room) (g := F0 m 4 ls [.ref (aS 0)]) (rest := []) (As := []) ⟨hx, hb, hml, hown, hG⟩ hM (hw_cwV 0 hG m_291 m_292 m_293 m_2 m_294 rfl rfl (by decide +kernel) ⟨Nat.le_of_ble_eq_true rfl, Nat.le_of_ble_eq_true rfl⟩) ⟨fun a U g mk q => ⟨q.1, q.2.1, q.2.2.1, va_K.moved (u := U) (U := U.calling g mk a) (Vm.Alike.refl U.vm) q.2.2.2⟩, hw_recv hK hP 1 rfl rfl, fun U hU hW => ⟨rfl, hU, by rw [hU]; exact hP.sub [1, 2, 3, 4, 5, 6, 7, 8, 9, 10, 11, 12, 13, 14, 15, 16, 17, 18, 19] rfl, va_K.moved hW.alike hK⟩⟩ rfl rfl hl.1 rfl (Nat.le_of_ble_eq_true rfl) d_HaulFlows_run_4 ⟨Nat.le_of_ble_eq_true rfl, Nat.le_of_ble_eq_true rfl⟩
    refine va_calli (A0 := fun _ => False) (H0 := s.heap) hr va_S.rf (fun q _ h => h) (fun q h => h) (fun r1 u t H1 locs1 ht hvm hw hB hz1 hk1 hS1 => ?_)
    have hH1 : H1 = s.heap := ht.symm.trans hB
    have hl1 : locs1 = [] := by
      cases locs1 with
      | nil => rfl
      | cons q _ => exact (hS1.2.2 q List.mem_cons_self).elim
    subst hH1 hl1 hw
    refine lv_aload_n hx hb d_HaulFlows_run_7 rfl (lv_at hl 0 rfl) ?_
    refine va_get (D := (dC, dI)) (ci := 4) (v := .ref (aS 0)) (C := R_HaulFlows) (T := T_HaulFlows) (N := 5) hx hb hG in_HaulFlows hown hK hP 0 rfl rfl 0 (by decide) (hG _ m_196) (fun _ h9 => h9) rfl d_HaulFlows_run_8 ?_
    refine va_get (D := (dC, dI)) (ci := 2) (v := .int (nI VS2)) (C := R_Site) (T := T_Site) (N := 17) hx hb hG in_Site hown hK hP 1 rfl rfl 2 (by decide) (hG _ m_62) (fun _ h9 => h9) rfl d_HaulFlows_run_11 ?_
    refine hw_imul hx hb d_HaulFlows_run_14 ?_
    refine lv_iload_n hx hb d_HaulFlows_run_15 rfl (lv_at hl 1 rfl) ?_
    refine lv_icmp_le (tgt := 29) hx hb d_HaulFlows_run_16 (by decide) (fun c16 => absurd c16 hsteps) (fun c16 => ?_)
    exact hx_throw hx hb hf hown hG hTh hout hlocks ⟨Nat.le_refl _, Nat.le_refl _, Nat.le_of_ble_eq_true rfl, Nat.le_of_ble_eq_true rfl⟩ (hl.1.trans hml.symm)
/-- the search of a handler in a table of one entry, whose class need not have been resolved yet -/
theorem hx_find {e : Env} {s : State} {f : JFrame} {a : Addr} {meth : Method} {cd : Code} {x : ExceptionTableEntry} {cT : ClassId} {cell : Cell} (hm : s.vm.method? f.method = some meth) (hc : meth.code = some cd) (ht : cd.exceptionTable.toList = [x]) (hx : covers x f.pc = true) (h0 : x.catchType ≠ 0)
    (hl : s.vm.ClassLinks e.platform f.method.cls x.catchType cT) (hcell : s.heap[a]? = some cell) (hobj : cell.vm = .none) (hk : ∃ k, s.vm.classes[cell.cls]? = some k) (hcl : ∃ k, s.vm.classes[cT]? = some k) (hfit : s.vm.assignable cell.cls cT = true)
    (Q : Handler → Pre) (E : CtlPost) (d : Bool) (acts : List Action) : wp (findHandler f a) Q E e d acts s ↔ Q (.found x.handlerPc) d acts (s.setVm (s.vm.noted f.method.cls x.catchType (.cls cT))) := by
  rw [_root_.Jvm.W.findHandler_eq hm hc, ht]
  simp only [covers] at hx
  obtain ⟨g1, g2⟩ := (resolveClass_links e.toSetting hl).op (op := VmOp.resolveClass f.method.cls x.catchType) rfl
  have hal : s.vm.Alike (s.vm.noted f.method.cls x.catchType (.cls cT)) := (Vm.Alike.refl s.vm).noted _ _ _
  obtain ⟨k1, hk1⟩ := hk
  obtain ⟨k2, hk2⟩ := hcl
  obtain ⟨k3, hk3, -⟩ := hal.2.2 _ _ hk1
  obtain ⟨k4, hk4, -⟩ := hal.2.2 _ _ hk2
  have hf2 : (s.vm.noted f.method.cls x.catchType (.cls cT)).assignable cell.cls cT = true := by rw [hal.assignable]; exact hfit
  have hob : ∀ k, cell.vm ≠ .statics k := fun k h => by rw [hobj] at h; cases h
  simp [findHandler.go, hx, h0, g1, g2, hcell, hob, hk3, hk4, hf2, VmOp.dirties, VmOp.acts]
theorem hx_step {e : Env} {s : State} {a : Addr} {f : JFrame} {r : List Frame} {pc : Nat} {vm' : Vm} (h : ∀ (Q : Handler → Pre) (E : CtlPost) (d : Bool) (acts : List Action), wp (findHandler f a) Q E e d acts s ↔ Q (.found pc) d acts (s.setVm vm')) :
    (stepThrowing e s a (.java f :: r)).1 = (s.setVm vm').setFrames (.java { f with pc := pc, stack := [.ref a] } :: r) := by
  simp only [stepThrowing, searchFrame, vmDo]
  generalize hr : Sem.go _ e false [] s = res
  obtain ⟨as, rfl, -⟩ := Sem.eq_ok_of hr (a := Handler.found pc) (s' := s.setVm vm') (acts' := []) (by simp [h _ _ _ _])
  rfl
section HXC
variable {p : Program} {l : Launch} {e : Env} {R : Room} {s : State} {m : MethodId} {args : Array Value} {below : List Frame} {meth : Method} {c : Code} {T : State} {locs : List Loc} {cells slots : Nat}
/-- a thrown object is caught by the method's only handler -/
theorem hx_caught (X : Stand p l e R s m args below meth c T locs cells slots) {g : JFrame} (hg : g.method = m) {a : Addr} {x : ExceptionTableEntry} (ht : c.exceptionTable.toList = [x]) (hx : covers x g.pc = true) (h0 : x.catchType ≠ 0) {own C : String} (hown : s.vm.findClass own = some m.cls)
    (hlink : (Cond.classLink own x.catchType C).before args s = true) {cT : ClassId} {cell : Cell} (hcT : s.vm.findClass C = some cT) (hcell : T.heap[a]? = some cell) (hobj : cell.vm = .none) (hcls : cell.cls = cT) (hfit : s.vm.assignable cT cT = true) :
    ∃ vm', Stand p l e R s m args below meth c (T.setVm vm') locs cells slots ∧ ∀ target, Steps p.tables e below ((T.setVm vm').setTop { g with pc := x.handlerPc, stack := [.ref a] }) target → Steps p.tables e below ((T.setTop g).pushFrame (.throwing a)) target := by
  subst hg
  have hpl : e.platform.magicAccessors = ({} : Platform).magicAccessors := by rw [X.admits.platform]
  obtain ⟨c', hc', hcl⟩ := Cond.classLink_spec hown hlink e.platform hpl
  cases hcT.symm.trans hc'
  obtain ⟨dk, _, _, kt, hd, _, _, _, _, hkt, _, hopen⟩ := hcl.here
  have hW' : s.WarmedH (T.vm.noted g.method.cls x.catchType (.cls cT)) := X.warmed.noted hd hopen (State.rightAt_cls hcl)
  obtain ⟨kt', hkt', -⟩ := X.warmed.alike.2.2 _ _ hkt
  have hfit' : T.vm.assignable cell.cls cT = true := by rw [X.warmed.alike.assignable, hcls]; exact hfit
  refine ⟨_, X.noted hW', fun target hrest => ?_⟩
  have hfind := hx_find (e := e) (s := (T.setTop g).pushFrame (.throwing a)) (f := g) (a := a) (meth := meth) (cd := c) X.method' X.code ht hx h0 (X.warmed.classLinks hcl) hcell hobj ⟨kt', by rw [hcls]; exact hkt'⟩ ⟨kt', hkt'⟩ hfit'
  obtain ⟨hgo, hw⟩ := X.here.throwing a
  refine Steps.head hgo hw ?_
  rw [stepThread_throwing (frames_entered X.here.top _), hx_step hfind]
  obtain ⟨g₀, hg⟩ := Option.isSome_iff_exists.mp X.here.top
  obtain ⟨r, hr⟩ := State.topJava?_eq_some.mp hg
  have hr' : (T.setVm (T.vm.noted g.method.cls x.catchType (.cls cT))).frames = .java g₀ :: r := hr
  rw [State.setTop_of_frames _ hr'] at hrest
  have e1 : ∀ (u : State) (vm' : Vm) (F G : List Frame), ((u.setFrames F).setVm vm').setFrames G = (u.setVm vm').setFrames G := fun u vm' F G => by
    rw [show (u.setFrames F).setVm vm' = (u.setVm vm').setFrames F from rfl, State.setFrames_setFrames]
  rw [hr, List.tail_cons, State.pushFrame, e1, State.setTop_of_frames _ hr, e1]
  exact hrest
end HXC
section HXV
variable {p : Program} {l : Launch} {e : Env} {R : Room} {s : State} {m : MethodId} {args : Array Value} {below : List Frame} {meth : Method} {c : Code} {T : State} {locs : List Loc} {cells slots : Nat}
/-- a call of a method that throws: the object stands new, all else as it was -/
theorem hx_callV (X : Stand p l e R s m args below meth c T locs cells slots) (hexec : p.tables.exec = Jvm.exec) {own C : String} {index : Nat} {y : MethodName} {bytes : ByteArray} {maxL : Nat} {ret : Option FieldType} {ws : List Cond} {rm : Room} {Pc : Array Value → State → Prop}
    (hM : MetFree l y (headSpec ws rm) Pc (fun _ _ _ _ _ => True) hx_Q) (hblind : FrameBlind Pc) (hrm : rm.cells = 1 ∧ rm.slots = 6) (hframes : rm.frames + 1 ≤ R.frames) (hlocals : 8 + (maxL + 11) + rm.locals ≤ R.locals) (hcs : cells + 1 ≤ R.cells ∧ slots + 6 ≤ R.slots)
    (hws : ∀ w ∈ ws, ∀ (a' : Array Value) (U : State), s.WarmedH U.vm → w.before a' U = true) (hown : s.vm.findClass own = some m.cls) (hlink : (Cond.methodLink own index y).before args s = true) (hinst : (Cond.instanceMethod y).before args s = true) (hsel : (Cond.selects C y y).before args s = true) (hcode : (Cond.code y bytes maxL ret).before args s = true) (hini : (Cond.initialized y.cls).before args s = true)
    (hy : y.cls ≠ "java/lang/invoke/MethodHandle" ∧ y.cls ≠ "java/lang/invoke/VarHandle") {b : Addr} {cellB : Cell} (hcell : T.heap[b]? = some cellB) (hobj : cellB.vm.isStatics = false) (hcls : s.vm.findClass C = some cellB.cls)
    {g : JFrame} (hg : g.method = m) (hsize : g.locals.size = c.maxLocals) {argsL rest : List Value} (hlen : ∀ sig, parseMethodDescriptor y.desc = some sig → argsL.length = sig.parameters.length) (hstack : g.stack = argsL.reverse ++ .ref b :: rest) (hW : 2 * g.monitorRoom + (rest.map fun v => v.category).sum ≤ 8) (hdg : decode c.code g.pc = .ok (.invokevirtual index, 3))
    (hpre : ∀ vm₁, s.WarmedH vm₁ → Pc (Value.ref b :: argsL).toArray (T.setVm vm₁)) :
    ∃ (x : Nat) (ce : Cell) (T' : State), Stand p l e R s m args below meth c T' locs (cells + 1) (slots + 6) ∧ T.heap.size ≤ x ∧ T'.heap[x]? = some ce ∧ ce.vm = .none ∧ s.vm.findClass hx_ISE = some ce.cls ∧ s.vm.assignable ce.cls ce.cls = true ∧ T.heap.size ≤ T'.heap.size ∧ (∀ q, q < T.heap.size → T'.heap[q]? = T.heap[q]?) ∧
      ∀ target, Steps p.tables e below ((T'.setTop { g with stack := rest }).pushFrame (.throwing x)) target → Steps p.tables e below (T.setTop g) target := by
  obtain ⟨mk, methM, hnamed, hmethM, hstM, habM⟩ := Cond.instanceMethod_spec hinst
  obtain ⟨methM', cM, hmethM', hcM, -, hlM, -, -, -, hsigM⟩ := Cond.code_spec hnamed hcode
  cases hmethM.symm.trans hmethM'
  obtain ⟨c2, r2, m2, q1, q2, q3, q4, kP, hkP, hkPi⟩ := Cond.selects_spec hsel
  cases hcls.symm.trans q1
  cases (State.methodFound?_of_named hnamed hy).symm.trans q2
  cases hnamed.symm.trans q3
  have hselP : selectMethod e.platform s.vm cellB.cls mk = .method mk := by rw [Launch.admits_selectMethod X.admits]; exact q4
  have hinitP : kP.init = .initialized := Cond.initialized_spec (findClass_of_methodNamed hnamed) hkP hini
  obtain ⟨vm₁, X₁, hstep₁⟩ := X.invokevirtual hexec hown hlink hnamed hmethM hstM hkP hkPi hy (a := b) (cell := cellB) hcell (fun z h => by rw [h] at hobj; cases hobj) hselP hmethM habM hkP hkPi (g := g) hg (argsL := argsL) (rest := rest) (hlen _ hsigM) hstack hdg
  generalize hgr : ({ g with stack := rest } : JFrame) = gr at *
  have hgm : gr.method = m := by rw [← hgr]; exact hg
  have hgs : gr.locals.size = c.maxLocals := by rw [← hgr]; exact hsize
  have hgd : decode c.code gr.pc = .ok (.invokevirtual index, 3) := by rw [← hgr]; exact hdg
  have hgW : 2 * gr.monitorRoom + (gr.stack.map fun v => v.category).sum ≤ 8 := by rw [← hgr]; exact hW
  have hpc := hpre vm₁ X₁.warmed
  generalize hU : T.setVm vm₁ = U at *
  obtain ⟨kP₁, hkP₁, heP₁⟩ := X₁.warmed.alike.2.2 _ _ hkP
  have h : At U gr.method c below := by rw [hgm]; exact X₁.here
  have happ : (headSpec ws rm).appliesLoose y e.platform (U.calling gr mk (Value.ref b :: argsL).toArray) = true :=
    Spec.appliesLoose_calling (g := gr) h hgd (X₁.named hnamed) hkP₁ (by rw [heP₁]; exact hinitP)
      (X₁.room_calling (g := gr) (R' := rm) hgs (show U.vm.method? mk = some methM by rw [X₁.warmed.alike.method?]; exact hmethM) hcM hframes (by rw [hlM]; omega) (by rw [hrm.1]; exact hcs.1) (by rw [hrm.2]; exact hcs.2))
      (atoms_intro fun w hw => hws w hw _ _ X₁.warmed)
  obtain ⟨mid, hmid⟩ := h.above
  have hfr : (U.setTop gr).frames = (.java gr :: mid) ++ below := by rw [State.frames_setTop' gr h.top, hmid]; rfl
  obtain ⟨o, s₂, hsteps, -, hend, hq⟩ := Steps.callFree hM p X₁.admits X₁.cas X₁.clock (acts := []) hfr happ (hblind _ _ gr mk hpc) trivial
  have hq : hx_Q (Value.ref b :: argsL).toArray (U.calling gr mk (Value.ref b :: argsL).toArray) o s₂ := hq
  rw [State.frames_setTop' gr h.top] at hend
  obtain ⟨x, ce, rfl, hx1, hW₂, hsm, hce, hcv, hcc, hca⟩ := hq
  have hx1 : U.heap.size ≤ x := hx1
  have hcc : U.vm.findClass hx_ISE = some ce.cls := hcc
  have hca : U.vm.assignable ce.cls ce.cls = true := hca
  have hold : ∀ (q : Nat) (cell : Cell), U.heap[q]? = some cell → s₂.heap[q]? = some cell := fun q cell hq => State.sameButNew.old_cell hsm hq
  have hsz : U.heap.size ≤ s₂.heap.size := hsm.2.1
  obtain ⟨e2, q2, q3, q4, q5, q6⟩ := hsm
  have e3 : s₂ = ({ (U.calling gr mk (Value.ref b :: argsL).toArray).setFrames s₂.frames with heap := s₂.heap, slotsUsed := s₂.slotsUsed } : State).setVm s₂.vm := by
    have : s₂ = ({ s₂ with vm := (U.calling gr mk (Value.ref b :: argsL).toArray).vm } : State).setVm s₂.vm := rfl
    rw [e2] at this
    exact this
  have hf₂ : s₂.frames = .throwing x :: .java gr :: U.frames.tail := hend
  have hW' : U.WarmedH s₂.vm := hW₂
  obtain ⟨g₀, hg0⟩ := Option.isSome_iff_exists.mp h.top
  obtain ⟨r, hr⟩ := State.topJava?_eq_some.mp hg0
  have hs₂ : s₂ = ((({ U with heap := s₂.heap, slotsUsed := s₂.slotsUsed } : State).setVm s₂.vm).setTop gr).pushFrame (.throwing x) := by
    have hr' : (({ U with heap := s₂.heap, slotsUsed := s₂.slotsUsed } : State).setVm s₂.vm).frames = .java g₀ :: r := hr
    refine e3.trans ?_
    rw [hf₂, State.calling_eq h.top, State.setFrames_setFrames, State.pushFrame, State.frames_setTop _ hr', State.setTop_of_frames _ hr', State.setFrames_setFrames, hr]
    rfl
  have hsame : U.sameButNew ({ U with heap := s₂.heap, slotsUsed := s₂.slotsUsed } : State) [] 1 6 := by
    refine ⟨?_, q2, q3, q4, q5, q6⟩
    obtain ⟨t, ht, -⟩ := State.frames_cons hr
    show ({ U with heap := s₂.heap, slotsUsed := s₂.slotsUsed } : State) = { U.setFrames U.frames with heap := s₂.heap, slotsUsed := s₂.slotsUsed }
    rw [State.setFrames_self ht]
  have hUh : U.heap = T.heap := by rw [← hU]; rfl
  have hst := X₁.same.trans (hsame.setVm s.vm)
  rw [List.append_nil] at hst
  refine ⟨x, ce, ({ U with heap := s₂.heap, slotsUsed := s₂.slotsUsed } : State).setVm s₂.vm,
    ⟨X₁.admits, X₁.cas, X₁.clock, X₁.frames, X₁.room, X₁.hears, X₁.method, X₁.code, (X₁.here.setHeapUsed s₂.heap s₂.slotsUsed).setVm hW'.alike, X₁.tail, State.WarmedH.trans X₁.warmed hW', X₁.limits, X₁.bytes, hst⟩,
    by rw [← hUh]; exact hx1, hce, hcv, ?_, ?_, by rw [← hUh]; exact hsz, fun q hq => ?_, fun target ht => hstep₁ _ fun acts => ?_⟩
  · rw [← X₁.warmed.alike.findClass]; exact hcc
  · rw [← X₁.warmed.alike.assignable]; exact hca
  · rw [← hUh] at hq ⊢
    obtain ⟨cell, hcq⟩ : ∃ cell, U.heap[q]? = some cell := ⟨_, Array.getElem?_eq_getElem hq⟩
    rw [hcq]
    exact hold q cell hcq
  · rw [doInvoke_state]
    refine hsteps.trans ?_
    rw [hs₂]
    exact ht
end HXV
