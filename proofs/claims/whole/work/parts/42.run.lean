abbrev b_HaulFlows_run : ByteArray := prog_1_method_10_code
def y_HaulFlows_run : MethodName := ⟨R_HaulFlows, "run", "(I)I"⟩
def u_HaulFlows_run : List Cond := Cond.code y_HaulFlows_run b_HaulFlows_run 2 (some .int) :: wG
theorem d_HaulFlows_run_0 : decode b_HaulFlows_run 0 = .ok (.aload_n 0, 1) := by decide +kernel
theorem d_HaulFlows_run_1 : decode b_HaulFlows_run 1 = .ok (.getfield 12, 3) := by decide +kernel
theorem d_HaulFlows_run_4 : decode b_HaulFlows_run 4 = .ok (.invokevirtual 110, 3) := by decide +kernel
theorem d_HaulFlows_run_7 : decode b_HaulFlows_run 7 = .ok (.aload_n 0, 1) := by decide +kernel
theorem d_HaulFlows_run_8 : decode b_HaulFlows_run 8 = .ok (.getfield 12, 3) := by decide +kernel
theorem d_HaulFlows_run_11 : decode b_HaulFlows_run 11 = .ok (.getfield 57, 3) := by decide +kernel
theorem d_HaulFlows_run_14 : decode b_HaulFlows_run 14 = .ok (.imul, 1) := by decide +kernel
theorem d_HaulFlows_run_15 : decode b_HaulFlows_run 15 = .ok (.iload_n 1, 1) := by decide +kernel
theorem d_HaulFlows_run_16 : decode b_HaulFlows_run 16 = .ok (.if_icmp .le 13, 3) := by decide +kernel
theorem d_HaulFlows_run_19 : decode b_HaulFlows_run 19 = .ok (.new 114, 3) := by decide +kernel
theorem d_HaulFlows_run_22 : decode b_HaulFlows_run 22 = .ok (.dup, 1) := by decide +kernel
theorem d_HaulFlows_run_23 : decode b_HaulFlows_run 23 = .ok (.ldc 116, 2) := by decide +kernel
theorem d_HaulFlows_run_25 : decode b_HaulFlows_run 25 = .ok (.invokespecial 118, 3) := by decide +kernel
theorem d_HaulFlows_run_28 : decode b_HaulFlows_run 28 = .ok (.athrow, 1) := by decide +kernel
theorem d_HaulFlows_run_29 : decode b_HaulFlows_run 29 = .ok (.aload_n 0, 1) := by decide +kernel
theorem d_HaulFlows_run_30 : decode b_HaulFlows_run 30 = .ok (.getfield 35, 3) := by decide +kernel
theorem d_HaulFlows_run_33 : decode b_HaulFlows_run 33 = .ok (.ifCond .ne 11, 3) := by decide +kernel
theorem d_HaulFlows_run_36 : decode b_HaulFlows_run 36 = .ok (.aload_n 0, 1) := by decide +kernel
theorem d_HaulFlows_run_37 : decode b_HaulFlows_run 37 = .ok (.aload_n 0, 1) := by decide +kernel
theorem d_HaulFlows_run_38 : decode b_HaulFlows_run 38 = .ok (.invokevirtual 121, 3) := by decide +kernel
theorem d_HaulFlows_run_41 : decode b_HaulFlows_run 41 = .ok (.putfield 35, 3) := by decide +kernel
theorem d_HaulFlows_run_44 : decode b_HaulFlows_run 44 = .ok (.aload_n 0, 1) := by decide +kernel
theorem d_HaulFlows_run_45 : decode b_HaulFlows_run 45 = .ok (.getfield 35, 3) := by decide +kernel
theorem d_HaulFlows_run_48 : decode b_HaulFlows_run 48 = .ok (.iconst 1, 1) := by decide +kernel
theorem d_HaulFlows_run_49 : decode b_HaulFlows_run 49 = .ok (.if_icmp .ne 7, 3) := by decide +kernel
theorem d_HaulFlows_run_52 : decode b_HaulFlows_run 52 = .ok (.iconst 0, 1) := by decide +kernel
theorem d_HaulFlows_run_53 : decode b_HaulFlows_run 53 = .ok (.goto 4, 3) := by decide +kernel
theorem d_HaulFlows_run_56 : decode b_HaulFlows_run 56 = .ok (.iconst 1, 1) := by decide +kernel
theorem d_HaulFlows_run_57 : decode b_HaulFlows_run 57 = .ok (.ireturn, 1) := by decide +kernel
/-! ===== run(): it answers, or throws ===== -/
theorem f_HaulFlows_workOut_le (VS0 : Nat) (VS1 : Nat) (VS2 : Nat) (NS0 : Nat → Nat) (NS1 : Nat → Nat) (NS2 : Nat → Nat) (LS0 : Nat → Int64) (LS1 : Nat → Int64) (LS2 : Nat → Int64) (LS3 : Nat → Int64) (LS4 : Nat → Int64) (LS5 : Nat → Int64) (LS6 : Nat → Int64) (LS7 : Nat → Int64) (LS8 : Nat → Int64) (IS0 : Nat → Int32) (VY0 : Nat) (LY0 : Nat → Int64) (LY1 : Nat → Int64) (LY2 : Nat → Int64) (IY0 : Nat → Int32) (VP0 : Nat) (VP1 : Nat) (VP2 : Nat) (NP0 : Nat → Nat) (LP0 : Nat → Int64) (LP1 : Nat → Int64) (LP2 : Nat → Int64) (LP3 : Nat → Int64) (LP4 : Nat → Int64) (IP0 : Nat → Int32) (IP1 : Nat → Int32) (VT0 : Nat) (NT0 : Nat → Nat) (NT1 : Nat → Nat) (LT0 : Nat → Int64) (IT0 : Nat → Int32) : (f_HaulFlows_workOut VS0 VS1 VS2 NS0 NS1 NS2 LS0 LS1 LS2 LS3 LS4 LS5 LS6 LS7 LS8 IS0 VY0 LY0 LY1 LY2 IY0 VP0 VP1 VP2 NP0 LP0 LP1 LP2 LP3 LP4 IP0 IP1 VT0 NT0 NT1 LT0 IT0).1 ≤ 2 := by
  unfold f_HaulFlows_workOut hh_bind
  dsimp only
  split
  · exact Nat.le_refl 2
  · split
    · exact Nat.le_refl 2
    · exact Nat.le_succ 1
def f_HaulFlows_run (VH0 : Nat) (VS0 : Nat) (VS1 : Nat) (VS2 : Nat) (NS0 : Nat → Nat) (NS1 : Nat → Nat) (NS2 : Nat → Nat) (LS0 : Nat → Int64) (LS1 : Nat → Int64) (LS2 : Nat → Int64) (LS3 : Nat → Int64) (LS4 : Nat → Int64) (LS5 : Nat → Int64) (LS6 : Nat → Int64) (LS7 : Nat → Int64) (LS8 : Nat → Int64) (IS0 : Nat → Int32) (VY0 : Nat) (LY0 : Nat → Int64) (LY1 : Nat → Int64) (LY2 : Nat → Int64) (IY0 : Nat → Int32) (VP0 : Nat) (VP1 : Nat) (VP2 : Nat) (NP0 : Nat → Nat) (LP0 : Nat → Int64) (LP1 : Nat → Int64) (LP2 : Nat → Int64) (LP3 : Nat → Int64) (LP4 : Nat → Int64) (IP0 : Nat → Int32) (IP1 : Nat → Int32) (VT0 : Nat) (NT0 : Nat → Nat) (NT1 : Nat → Nat) (LT0 : Nat → Int64) (IT0 : Nat → Int32) (x1 : Int32) : Nat × (Nat) × (Nat) × (Nat) × (Nat) × (Nat → Nat) × (Nat → Int64) × (Nat → Int64) × (Nat → Int64) × (Nat → Int64) × (Nat → Int64) × (Nat → Int32) × (Nat → Int32) × (Nat) × (Nat → Nat) × (Nat → Nat) × (Nat → Int64) × (Nat → Int32) :=
  hh_bind (f_Site_sources VS0 VS1) (fun y4 => if (nI (y4 * VS2)) ≤ x1 then (if VH0 = 0 then (hh_bind (f_HaulFlows_workOut VS0 VS1 VS2 NS0 NS1 NS2 LS0 LS1 LS2 LS3 LS4 LS5 LS6 LS7 LS8 IS0 VY0 LY0 LY1 LY2 IY0 VP0 VP1 VP2 NP0 LP0 LP1 LP2 LP3 LP4 IP0 IP1 VT0 NT0 NT1 LT0 IT0) (fun y38 => if y38.1 = 1 then (0, y38.1, y38.2.1, y38.2.2.1, y38.2.2.2.1, y38.2.2.2.2.1, y38.2.2.2.2.2.1, y38.2.2.2.2.2.2.1, y38.2.2.2.2.2.2.2.1, y38.2.2.2.2.2.2.2.2.1, y38.2.2.2.2.2.2.2.2.2.1, y38.2.2.2.2.2.2.2.2.2.2.1, y38.2.2.2.2.2.2.2.2.2.2.2.1, y38.2.2.2.2.2.2.2.2.2.2.2.2.1, y38.2.2.2.2.2.2.2.2.2.2.2.2.2.1, y38.2.2.2.2.2.2.2.2.2.2.2.2.2.2.1, y38.2.2.2.2.2.2.2.2.2.2.2.2.2.2.2.1, y38.2.2.2.2.2.2.2.2.2.2.2.2.2.2.2.2) else (1, y38.1, y38.2.1, y38.2.2.1, y38.2.2.2.1, y38.2.2.2.2.1, y38.2.2.2.2.2.1, y38.2.2.2.2.2.2.1, y38.2.2.2.2.2.2.2.1, y38.2.2.2.2.2.2.2.2.1, y38.2.2.2.2.2.2.2.2.2.1, y38.2.2.2.2.2.2.2.2.2.2.1, y38.2.2.2.2.2.2.2.2.2.2.2.1, y38.2.2.2.2.2.2.2.2.2.2.2.2.1, y38.2.2.2.2.2.2.2.2.2.2.2.2.2.1, y38.2.2.2.2.2.2.2.2.2.2.2.2.2.2.1, y38.2.2.2.2.2.2.2.2.2.2.2.2.2.2.2.1, y38.2.2.2.2.2.2.2.2.2.2.2.2.2.2.2.2))) else (if VH0 = 1 then (0, VH0, VP0, VP1, VP2, NP0, LP0, LP1, LP2, LP3, LP4, IP0, IP1, VT0, NT0, NT1, LT0, IT0) else (1, VH0, VP0, VP1, VP2, NP0, LP0, LP1, LP2, LP3, LP4, IP0, IP1, VT0, NT0, NT1, LT0, IT0))) else (0, VH0, VP0, VP1, VP2, NP0, LP0, LP1, LP2, LP3, LP4, IP0, IP1, VT0, NT0, NT1, LT0, IT0))
set_option maxHeartbeats 4000000 in
set_option maxRecDepth 100000 in
theorem c_HaulFlows_run (l : Launch) (dC : Nat → ClassId) (dI : Nat → Nat → Nat) (cI cJ cZ : ClassId) (sz : Nat) (aH : Nat → Nat) (VH0 : Nat) (aS : Nat → Nat) (VS0 : Nat) (VS1 : Nat) (VS2 : Nat) (NS0 : Nat → Nat) (NS1 : Nat → Nat) (NS2 : Nat → Nat) (LS0 : Nat → Int64) (LS1 : Nat → Int64) (LS2 : Nat → Int64) (LS3 : Nat → Int64) (LS4 : Nat → Int64) (LS5 : Nat → Int64) (LS6 : Nat → Int64) (LS7 : Nat → Int64) (LS8 : Nat → Int64) (IS0 : Nat → Int32) (aY : Nat → Nat) (VY0 : Nat) (LY0 : Nat → Int64) (LY1 : Nat → Int64) (LY2 : Nat → Int64) (IY0 : Nat → Int32) (aP : Nat → Nat) (VP0 : Nat) (VP1 : Nat) (VP2 : Nat) (NP0 : Nat → Nat) (LP0 : Nat → Int64) (LP1 : Nat → Int64) (LP2 : Nat → Int64) (LP3 : Nat → Int64) (LP4 : Nat → Int64) (IP0 : Nat → Int32) (IP1 : Nat → Int32) (aQ : Nat → Nat) (VQ0 : Nat) (VQ1 : Nat) (VQ2 : Nat) (NQ0 : Nat → Nat) (LQ0 : Nat → Int64) (LQ1 : Nat → Int64) (LQ2 : Nat → Int64) (LQ3 : Nat → Int64) (LQ4 : Nat → Int64) (IQ0 : Nat → Int32) (IQ1 : Nat → Int32) (aT : Nat → Nat) (VT0 : Nat) (NT0 : Nat → Nat) (NT1 : Nat → Nat) (LT0 : Nat → Int64) (IT0 : Nat → Int32) (x1 : Int32) (hc8 : VS0 ≤ 8) (hp4 : VS1 ≤ 4) (hf8 : VS2 ≤ 8) (hy6 : VY0 ≤ 6) (hk4 : ∀ i, NS0 i < 4) (hcw : ∀ i, NS1 i < 12) (hfw : ∀ i, NS2 i < 12) (hq : ∀ i, NP0 i < 21) (htq : ∀ i, NT1 i < 34) (hst : VH0 ≤ 2) (hpl : VH0 = 1 → VP0 = VS0 + VS1 ∧ VP1 = VS2) (hsf : VT0 ≤ 8) (hsteps : nI ((VS0 + VS1) * VS2) ≤ x1) : hh_Ci l y_HaulFlows_run u_HaulFlows_run ({ frames := 6, cells := 0, slots := 0, locals := 147 }) (dC, dI) vwCl [(cI, .int), (cJ, .long), (cZ, .boolean)] (w_H cI cJ cZ aH VH0 aS aP aQ aT ++ w_S cI cJ cZ aS VS0 VS1 VS2 NS0 NS1 NS2 LS0 LS1 LS2 LS3 LS4 LS5 LS6 LS7 LS8 IS0 aY ++ w_Y cI cJ cZ aY VY0 LY0 LY1 LY2 IY0 ++ w_P cI cJ cZ aP VP0 VP1 VP2 NP0 LP0 LP1 LP2 LP3 LP4 IP0 IP1 aS ++ w_P cI cJ cZ aQ VQ0 VQ1 VQ2 NQ0 LQ0 LQ1 LQ2 LQ3 LQ4 IQ0 IQ1 aS ++ w_T cI cJ cZ aT VT0 NT0 NT1 LT0 IT0 aS) sz [.ref (aH 0), .int x1] (nI ((f_HaulFlows_run VH0 VS0 VS1 VS2 NS0 NS1 NS2 LS0 LS1 LS2 LS3 LS4 LS5 LS6 LS7 LS8 IS0 VY0 LY0 LY1 LY2 IY0 VP0 VP1 VP2 NP0 LP0 LP1 LP2 LP3 LP4 IP0 IP1 VT0 NT0 NT1 LT0 IT0 x1).1)) (w_H cI cJ cZ aH ((f_HaulFlows_run VH0 VS0 VS1 VS2 NS0 NS1 NS2 LS0 LS1 LS2 LS3 LS4 LS5 LS6 LS7 LS8 IS0 VY0 LY0 LY1 LY2 IY0 VP0 VP1 VP2 NP0 LP0 LP1 LP2 LP3 LP4 IP0 IP1 VT0 NT0 NT1 LT0 IT0 x1).2.1) aS aP aQ aT ++ w_S cI cJ cZ aS VS0 VS1 VS2 NS0 NS1 NS2 LS0 LS1 LS2 LS3 LS4 LS5 LS6 LS7 LS8 IS0 aY ++ w_Y cI cJ cZ aY VY0 LY0 LY1 LY2 IY0 ++ w_P cI cJ cZ aP ((f_HaulFlows_run VH0 VS0 VS1 VS2 NS0 NS1 NS2 LS0 LS1 LS2 LS3 LS4 LS5 LS6 LS7 LS8 IS0 VY0 LY0 LY1 LY2 IY0 VP0 VP1 VP2 NP0 LP0 LP1 LP2 LP3 LP4 IP0 IP1 VT0 NT0 NT1 LT0 IT0 x1).2.2.1) ((f_HaulFlows_run VH0 VS0 VS1 VS2 NS0 NS1 NS2 LS0 LS1 LS2 LS3 LS4 LS5 LS6 LS7 LS8 IS0 VY0 LY0 LY1 LY2 IY0 VP0 VP1 VP2 NP0 LP0 LP1 LP2 LP3 LP4 IP0 IP1 VT0 NT0 NT1 LT0 IT0 x1).2.2.2.1) ((f_HaulFlows_run VH0 VS0 VS1 VS2 NS0 NS1 NS2 LS0 LS1 LS2 LS3 LS4 LS5 LS6 LS7 LS8 IS0 VY0 LY0 LY1 LY2 IY0 VP0 VP1 VP2 NP0 LP0 LP1 LP2 LP3 LP4 IP0 IP1 VT0 NT0 NT1 LT0 IT0 x1).2.2.2.2.1) ((f_HaulFlows_run VH0 VS0 VS1 VS2 NS0 NS1 NS2 LS0 LS1 LS2 LS3 LS4 LS5 LS6 LS7 LS8 IS0 VY0 LY0 LY1 LY2 IY0 VP0 VP1 VP2 NP0 LP0 LP1 LP2 LP3 LP4 IP0 IP1 VT0 NT0 NT1 LT0 IT0 x1).2.2.2.2.2.1) ((f_HaulFlows_run VH0 VS0 VS1 VS2 NS0 NS1 NS2 LS0 LS1 LS2 LS3 LS4 LS5 LS6 LS7 LS8 IS0 VY0 LY0 LY1 LY2 IY0 VP0 VP1 VP2 NP0 LP0 LP1 LP2 LP3 LP4 IP0 IP1 VT0 NT0 NT1 LT0 IT0 x1).2.2.2.2.2.2.1) ((f_HaulFlows_run VH0 VS0 VS1 VS2 NS0 NS1 NS2 LS0 LS1 LS2 LS3 LS4 LS5 LS6 LS7 LS8 IS0 VY0 LY0 LY1 LY2 IY0 VP0 VP1 VP2 NP0 LP0 LP1 LP2 LP3 LP4 IP0 IP1 VT0 NT0 NT1 LT0 IT0 x1).2.2.2.2.2.2.2.1) ((f_HaulFlows_run VH0 VS0 VS1 VS2 NS0 NS1 NS2 LS0 LS1 LS2 LS3 LS4 LS5 LS6 LS7 LS8 IS0 VY0 LY0 LY1 LY2 IY0 VP0 VP1 VP2 NP0 LP0 LP1 LP2 LP3 LP4 IP0 IP1 VT0 NT0 NT1 LT0 IT0 x1).2.2.2.2.2.2.2.2.1) ((f_HaulFlows_run VH0 VS0 VS1 VS2 NS0 NS1 NS2 LS0 LS1 LS2 LS3 LS4 LS5 LS6 LS7 LS8 IS0 VY0 LY0 LY1 LY2 IY0 VP0 VP1 VP2 NP0 LP0 LP1 LP2 LP3 LP4 IP0 IP1 VT0 NT0 NT1 LT0 IT0 x1).2.2.2.2.2.2.2.2.2.1) ((f_HaulFlows_run VH0 VS0 VS1 VS2 NS0 NS1 NS2 LS0 LS1 LS2 LS3 LS4 LS5 LS6 LS7 LS8 IS0 VY0 LY0 LY1 LY2 IY0 VP0 VP1 VP2 NP0 LP0 LP1 LP2 LP3 LP4 IP0 IP1 VT0 NT0 NT1 LT0 IT0 x1).2.2.2.2.2.2.2.2.2.2.1) ((f_HaulFlows_run VH0 VS0 VS1 VS2 NS0 NS1 NS2 LS0 LS1 LS2 LS3 LS4 LS5 LS6 LS7 LS8 IS0 VY0 LY0 LY1 LY2 IY0 VP0 VP1 VP2 NP0 LP0 LP1 LP2 LP3 LP4 IP0 IP1 VT0 NT0 NT1 LT0 IT0 x1).2.2.2.2.2.2.2.2.2.2.2.1) ((f_HaulFlows_run VH0 VS0 VS1 VS2 NS0 NS1 NS2 LS0 LS1 LS2 LS3 LS4 LS5 LS6 LS7 LS8 IS0 VY0 LY0 LY1 LY2 IY0 VP0 VP1 VP2 NP0 LP0 LP1 LP2 LP3 LP4 IP0 IP1 VT0 NT0 NT1 LT0 IT0 x1).2.2.2.2.2.2.2.2.2.2.2.2.1) aS ++ w_P cI cJ cZ aQ VQ0 VQ1 VQ2 NQ0 LQ0 LQ1 LQ2 LQ3 LQ4 IQ0 IQ1 aS ++ w_T cI cJ cZ aT ((f_HaulFlows_run VH0 VS0 VS1 VS2 NS0 NS1 NS2 LS0 LS1 LS2 LS3 LS4 LS5 LS6 LS7 LS8 IS0 VY0 LY0 LY1 LY2 IY0 VP0 VP1 VP2 NP0 LP0 LP1 LP2 LP3 LP4 IP0 IP1 VT0 NT0 NT1 LT0 IT0 x1).2.2.2.2.2.2.2.2.2.2.2.2.2.1) ((f_HaulFlows_run VH0 VS0 VS1 VS2 NS0 NS1 NS2 LS0 LS1 LS2 LS3 LS4 LS5 LS6 LS7 LS8 IS0 VY0 LY0 LY1 LY2 IY0 VP0 VP1 VP2 NP0 LP0 LP1 LP2 LP3 LP4 IP0 IP1 VT0 NT0 NT1 LT0 IT0 x1).2.2.2.2.2.2.2.2.2.2.2.2.2.2.1) ((f_HaulFlows_run VH0 VS0 VS1 VS2 NS0 NS1 NS2 LS0 LS1 LS2 LS3 LS4 LS5 LS6 LS7 LS8 IS0 VY0 LY0 LY1 LY2 IY0 VP0 VP1 VP2 NP0 LP0 LP1 LP2 LP3 LP4 IP0 IP1 VT0 NT0 NT1 LT0 IT0 x1).2.2.2.2.2.2.2.2.2.2.2.2.2.2.2.1) ((f_HaulFlows_run VH0 VS0 VS1 VS2 NS0 NS1 NS2 LS0 LS1 LS2 LS3 LS4 LS5 LS6 LS7 LS8 IS0 VY0 LY0 LY1 LY2 IY0 VP0 VP1 VP2 NP0 LP0 LP1 LP2 LP3 LP4 IP0 IP1 VT0 NT0 NT1 LT0 IT0 x1).2.2.2.2.2.2.2.2.2.2.2.2.2.2.2.2.1) ((f_HaulFlows_run VH0 VS0 VS1 VS2 NS0 NS1 NS2 LS0 LS1 LS2 LS3 LS4 LS5 LS6 LS7 LS8 IS0 VY0 LY0 LY1 LY2 IY0 VP0 VP1 VP2 NP0 LP0 LP1 LP2 LP3 LP4 IP0 IP1 VT0 NT0 NT1 LT0 IT0 x1).2.2.2.2.2.2.2.2.2.2.2.2.2.2.2.2.2) aS) 0 0 := by
  unfold hh_Ci
  refine Met.ofW (cc := b_HaulFlows_run) (maxL := 2) (ret := (some .int)) (by decide) rfl ?_
  intro p e s m args below meth c s₁ B hml hv
  obtain ⟨rfl, hsz, hP, hK, hD0⟩ := hv
  have hx := B.exec
  have hb := B.bytes
  have hr := B.returns
  have hts := atoms_spec (ws := u_HaulFlows_run) B.pre
  have hG : ∀ w ∈ wG, w.before ([.ref (aH 0), .int x1]).toArray s = true := fun w h => hts w (List.mem_cons_of_mem _ h)
  have hown : s.vm.findClass R_HaulFlows = some m.cls := findClass_of_methodNamed B.named
  have hlocks := B.notSynchronized
  subst hsz
  have hD := hD0.self (sz := s.heap.size)
  generalize hAe : va_A (w_H cI cJ cZ aH VH0 aS aP aQ aT ++ w_S cI cJ cZ aS VS0 VS1 VS2 NS0 NS1 NS2 LS0 LS1 LS2 LS3 LS4 LS5 LS6 LS7 LS8 IS0 aY ++ w_Y cI cJ cZ aY VY0 LY0 LY1 LY2 IY0 ++ w_P cI cJ cZ aP VP0 VP1 VP2 NP0 LP0 LP1 LP2 LP3 LP4 IP0 IP1 aS ++ w_P cI cJ cZ aQ VQ0 VQ1 VQ2 NQ0 LQ0 LQ1 LQ2 LQ3 LQ4 IQ0 IQ1 aS ++ w_T cI cJ cZ aT VT0 NT0 NT1 LT0 IT0 aS) s.heap.size = A at hD ⊢
  have hA : ∀ q : Nat, s.heap.size ≤ q → A q := fun q h => by rw [← hAe]; exact Or.inr h
  have hS : va_S A s.heap s.heap [] := va_S.rf
  have hl := lv_entry ([.ref (aH 0), .int x1]) (n := 2) (Nat.le_of_ble_eq_true rfl)
  rw [lg_entry_eq]
  generalize (lg_sl ([.ref (aH 0), .int x1]) ++ List.replicate (2 - (lg_sl ([.ref (aH 0), .int x1])).length) Slot.unset).toArray = ls at hl ⊢
  have hl : lv_has ls 2 [(0, .ref (aH 0)), (1, .int x1)] := hl
  generalize hR : f_HaulFlows_run VH0 VS0 VS1 VS2 NS0 NS1 NS2 LS0 LS1 LS2 LS3 LS4 LS5 LS6 LS7 LS8 IS0 VY0 LY0 LY1 LY2 IY0 VP0 VP1 VP2 NP0 LP0 LP1 LP2 LP3 LP4 IP0 IP1 VT0 NT0 NT1 LT0 IT0 x1 = r0
  obtain ⟨H, locs, hHe, hle⟩ : ∃ (H : Heap) (locs : List Loc), s.heap = H ∧ [] = locs := ⟨_, _, rfl, rfl⟩
  have hP : va_P (dC, dI) vwCl (w_H cI cJ cZ aH VH0 aS aP aQ aT ++ w_S cI cJ cZ aS VS0 VS1 VS2 NS0 NS1 NS2 LS0 LS1 LS2 LS3 LS4 LS5 LS6 LS7 LS8 IS0 aY ++ w_Y cI cJ cZ aY VY0 LY0 LY1 LY2 IY0 ++ w_P cI cJ cZ aP VP0 VP1 VP2 NP0 LP0 LP1 LP2 LP3 LP4 IP0 IP1 aS ++ w_P cI cJ cZ aQ VQ0 VQ1 VQ2 NQ0 LQ0 LQ1 LQ2 LQ3 LQ4 IQ0 IQ1 aS ++ w_T cI cJ cZ aT VT0 NT0 NT1 LT0 IT0 aS) H := by rw [← hHe]; exact hP
  have hS : va_S A s.heap H locs := by rw [← hHe, ← hle]; exact hS
  refine hw_start hHe hle ?_
  unfold f_HaulFlows_run at hR
  refine lv_aload_n hx hb d_HaulFlows_run_0 rfl (lv_at hl 0 rfl) ?_
  refine va_get (D := (dC, dI)) (ci := 4) (v := .ref (aS 0)) (C := R_HaulFlows) (T := T_HaulFlows) (N := 5) hx hb hG in_HaulFlows hown hK hP 0 rfl rfl 0 (by decide) (hG _ m_196) (fun _ h9 => h9) rfl d_HaulFlows_run_1 ?_
  obtain ⟨y4, hy4, hR⟩ := hw_bind hR
  have hM := c_Site_sources l dC dI cI cJ cZ H.size aS VS0 VS1 VS2 NS0 NS1 NS2 LS0 LS1 LS2 LS3 LS4 LS5 LS6 LS7 LS8 IS0 aY VY0 LY0 LY1 LY2 IY0
  rw [hy4] at hM
  refine hw_callVi (As := []) (rest := []) (wr := w_H cI cJ cZ aH VH0 aS aP aQ aT ++ w_P cI cJ cZ aP VP0 VP1 VP2 NP0 LP0 LP1 LP2 LP3 LP4 IP0 IP1 aS ++ w_P cI cJ cZ aQ VQ0 VQ1 VQ2 NQ0 LQ0 LQ1 LQ2 LQ3 LQ4 IQ0 IQ1 aS ++ w_T cI cJ cZ aT VT0 NT0 NT1 LT0 IT0 aS) ⟨hx, hb, hml, hown, hG⟩ hM (hw_cwV 0 hG m_291 m_292 m_293 m_2 m_294 rfl rfl (by decide +kernel) ⟨Nat.le_of_ble_eq_true rfl, Nat.le_of_ble_eq_true rfl⟩) hK hP hD hS hA [1, 2, 3, 4, 5, 6, 7, 8, 9, 10, 11, 12, 13, 14, 15, 16, 17, 18, 19] [0, 20, 21, 22, 23, 24, 25, 26, 27, 28, 29, 30, 31, 32, 33, 34, 35, 36, 37, 38, 39, 40, 41, 42] rfl rfl (by decide) (by decide) (by decide) (hw_recv hK hP 1 rfl rfl) rfl hl.1 rfl (Nat.le_of_ble_eq_true rfl) d_HaulFlows_run_4 ⟨Nat.le_of_ble_eq_true rfl, Nat.le_of_ble_eq_true rfl⟩ (fun H locs hP hD hS => ?_)
  have hP : va_P (dC, dI) vwCl (w_H cI cJ cZ aH VH0 aS aP aQ aT ++ w_S cI cJ cZ aS VS0 VS1 VS2 NS0 NS1 NS2 LS0 LS1 LS2 LS3 LS4 LS5 LS6 LS7 LS8 IS0 aY ++ w_Y cI cJ cZ aY VY0 LY0 LY1 LY2 IY0 ++ w_P cI cJ cZ aP VP0 VP1 VP2 NP0 LP0 LP1 LP2 LP3 LP4 IP0 IP1 aS ++ w_P cI cJ cZ aQ VQ0 VQ1 VQ2 NQ0 LQ0 LQ1 LQ2 LQ3 LQ4 IQ0 IQ1 aS ++ w_T cI cJ cZ aT VT0 NT0 NT1 LT0 IT0 aS) H := hP.sub [0, 24, 25, 26, 27, 28, 29, 30, 31, 32, 33, 34, 35, 36, 37, 38, 39, 40, 41, 42, 1, 2, 3, 4, 5, 6, 7, 8, 9, 10, 11, 12, 13, 14, 15, 16, 17, 18, 19, 20, 21, 22, 23] rfl
  have hD : va_D A (w_H cI cJ cZ aH VH0 aS aP aQ aT ++ w_S cI cJ cZ aS VS0 VS1 VS2 NS0 NS1 NS2 LS0 LS1 LS2 LS3 LS4 LS5 LS6 LS7 LS8 IS0 aY ++ w_Y cI cJ cZ aY VY0 LY0 LY1 LY2 IY0 ++ w_P cI cJ cZ aP VP0 VP1 VP2 NP0 LP0 LP1 LP2 LP3 LP4 IP0 IP1 aS ++ w_P cI cJ cZ aQ VQ0 VQ1 VQ2 NQ0 LQ0 LQ1 LQ2 LQ3 LQ4 IQ0 IQ1 aS ++ w_T cI cJ cZ aT VT0 NT0 NT1 LT0 IT0 aS) := hD.sub [0, 24, 25, 26, 27, 28, 29, 30, 31, 32, 33, 34, 35, 36, 37, 38, 39, 40, 41, 42, 1, 2, 3, 4, 5, 6, 7, 8, 9, 10, 11, 12, 13, 14, 15, 16, 17, 18, 19, 20, 21, 22, 23] (by decide) rfl
  have hs4 : y4 = VS0 + VS1 := by rw [← hy4]; rfl
  refine lv_aload_n hx hb d_HaulFlows_run_7 rfl (lv_at hl 0 rfl) ?_
  refine va_get (D := (dC, dI)) (ci := 4) (v := .ref (aS 0)) (C := R_HaulFlows) (T := T_HaulFlows) (N := 5) hx hb hG in_HaulFlows hown hK hP 0 rfl rfl 0 (by decide) (hG _ m_196) (fun _ h9 => h9) rfl d_HaulFlows_run_8 ?_
  refine va_get (D := (dC, dI)) (ci := 2) (v := .int (nI VS2)) (C := R_Site) (T := T_Site) (N := 17) hx hb hG in_Site hown hK hP 1 rfl rfl 2 (by decide) (hG _ m_62) (fun _ h9 => h9) rfl d_HaulFlows_run_11 ?_
  refine hw_imul hx hb d_HaulFlows_run_14 ?_
  refine lv_iload_n hx hb d_HaulFlows_run_15 rfl (lv_at hl 1 rfl) ?_
  refine lv_icmp_le (tgt := 29) hx hb d_HaulFlows_run_16 (by decide) (fun c16 => ?_) (fun c16 => ?_)
  · replace hR := (if_pos c16).symm.trans hR
    refine lv_aload_n hx hb d_HaulFlows_run_29 rfl (lv_at hl 0 rfl) ?_
    refine va_get (D := (dC, dI)) (ci := 4) (v := .int (nI VH0)) (C := R_HaulFlows) (T := T_HaulFlows) (N := 5) hx hb hG in_HaulFlows hown hK hP 0 rfl rfl 4 (by decide) (hG _ m_200) (fun _ h9 => h9) rfl d_HaulFlows_run_30 ?_
    refine hw_if_ne (tgt := 44) hx hb d_HaulFlows_run_33 (by decide) (by omega) (fun c33 => ?_) (fun c33 => ?_)
    · replace hR := (if_neg c33).symm.trans hR
      refine lv_aload_n hx hb d_HaulFlows_run_44 rfl (lv_at hl 0 rfl) ?_
      refine va_get (D := (dC, dI)) (ci := 4) (v := .int (nI VH0)) (C := R_HaulFlows) (T := T_HaulFlows) (N := 5) hx hb hG in_HaulFlows hown hK hP 0 rfl rfl 4 (by decide) (hG _ m_200) (fun _ h9 => h9) rfl d_HaulFlows_run_45 ?_
      refine lv_iconst (v := nI 1) hx hb d_HaulFlows_run_48 (by decide) ?_
      refine hw_icmp_ne (tgt := 56) hx hb d_HaulFlows_run_49 (by decide) (by omega) (by omega) (fun c49 => ?_) (fun c49 => ?_)
      · replace hR := (if_neg c49).symm.trans hR
        refine lv_iconst (v := nI 1) hx hb d_HaulFlows_run_56 (by decide) ?_
        subst hR
        exact W.iret (v := nI 1) hx hb hr (fun t ht hW => ⟨⟨_, (), rfl, rfl, by rw [ht]; exact hP, va_K.moved hW.alike hK, hD⟩, hS.F ht⟩) hS.2.2 d_HaulFlows_run_57
      · replace hR := (if_pos c49).symm.trans hR
        refine lv_iconst (v := nI 0) hx hb d_HaulFlows_run_52 (by decide) ?_
        refine lv_goto (tgt := 57) hx hb d_HaulFlows_run_53 (by decide) ?_
        subst hR
        exact W.iret (v := nI 0) hx hb hr (fun t ht hW => ⟨⟨_, (), rfl, rfl, by rw [ht]; exact hP, va_K.moved hW.alike hK, hD⟩, hS.F ht⟩) hS.2.2 d_HaulFlows_run_57
    · replace hR := (if_pos c33).symm.trans hR
      refine lv_aload_n hx hb d_HaulFlows_run_36 rfl (lv_at hl 0 rfl) ?_
      refine lv_aload_n hx hb d_HaulFlows_run_37 rfl (lv_at hl 0 rfl) ?_
      obtain ⟨y38, hy38, hR⟩ := hw_bind hR
      have hM := c_HaulFlows_workOut l dC dI cI cJ cZ H.size aH VH0 aS VS0 VS1 VS2 NS0 NS1 NS2 LS0 LS1 LS2 LS3 LS4 LS5 LS6 LS7 LS8 IS0 aY VY0 LY0 LY1 LY2 IY0 aP VP0 VP1 VP2 NP0 LP0 LP1 LP2 LP3 LP4 IP0 IP1 aQ VQ0 VQ1 VQ2 NQ0 LQ0 LQ1 LQ2 LQ3 LQ4 IQ0 IQ1 aT VT0 NT0 NT1 LT0 IT0 (by first | assumption | omega) (by first | assumption | omega) (by first | assumption | omega) (by first | assumption | omega) (by first | assumption | omega) (by first | assumption | omega) (by first | assumption | omega) (by first | assumption | omega) (by first | assumption | omega)
      rw [hy38] at hM
      refine hw_callVi (As := []) (rest := [.ref (aH 0)]) (wr := ([] : va_W)) ⟨hx, hb, hml, hown, hG⟩ hM (hw_cwV 0 hG m_539 m_541 mp_10 m_1 m_542 rfl rfl (by decide +kernel) ⟨Nat.le_of_ble_eq_true rfl, Nat.le_of_ble_eq_true rfl⟩) hK hP hD hS hA [0, 1, 2, 3, 4, 5, 6, 7, 8, 9, 10, 11, 12, 13, 14, 15, 16, 17, 18, 19, 20, 21, 22, 23, 24, 25, 26, 27, 28, 29, 30, 31, 32, 33, 34, 35, 36, 37, 38, 39, 40, 41, 42] [] rfl rfl (by decide) (by decide) (by decide) (hw_recv hK hP 0 rfl rfl) rfl hl.1 rfl (Nat.le_of_ble_eq_true rfl) d_HaulFlows_run_38 ⟨Nat.le_of_ble_eq_true rfl, Nat.le_of_ble_eq_true rfl⟩ (fun H locs hP hD hS => ?_)
      have hP : va_P (dC, dI) vwCl (w_H cI cJ cZ aH VH0 aS aP aQ aT ++ w_S cI cJ cZ aS VS0 VS1 VS2 NS0 NS1 NS2 LS0 LS1 LS2 LS3 LS4 LS5 LS6 LS7 LS8 IS0 aY ++ w_Y cI cJ cZ aY VY0 LY0 LY1 LY2 IY0 ++ w_P cI cJ cZ aP y38.2.1 y38.2.2.1 y38.2.2.2.1 y38.2.2.2.2.1 y38.2.2.2.2.2.1 y38.2.2.2.2.2.2.1 y38.2.2.2.2.2.2.2.1 y38.2.2.2.2.2.2.2.2.1 y38.2.2.2.2.2.2.2.2.2.1 y38.2.2.2.2.2.2.2.2.2.2.1 y38.2.2.2.2.2.2.2.2.2.2.2.1 aS ++ w_P cI cJ cZ aQ VQ0 VQ1 VQ2 NQ0 LQ0 LQ1 LQ2 LQ3 LQ4 IQ0 IQ1 aS ++ w_T cI cJ cZ aT y38.2.2.2.2.2.2.2.2.2.2.2.2.1 y38.2.2.2.2.2.2.2.2.2.2.2.2.2.1 y38.2.2.2.2.2.2.2.2.2.2.2.2.2.2.1 y38.2.2.2.2.2.2.2.2.2.2.2.2.2.2.2.1 y38.2.2.2.2.2.2.2.2.2.2.2.2.2.2.2.2 aS) H := hP
      have hD : va_D A (w_H cI cJ cZ aH VH0 aS aP aQ aT ++ w_S cI cJ cZ aS VS0 VS1 VS2 NS0 NS1 NS2 LS0 LS1 LS2 LS3 LS4 LS5 LS6 LS7 LS8 IS0 aY ++ w_Y cI cJ cZ aY VY0 LY0 LY1 LY2 IY0 ++ w_P cI cJ cZ aP y38.2.1 y38.2.2.1 y38.2.2.2.1 y38.2.2.2.2.1 y38.2.2.2.2.2.1 y38.2.2.2.2.2.2.1 y38.2.2.2.2.2.2.2.1 y38.2.2.2.2.2.2.2.2.1 y38.2.2.2.2.2.2.2.2.2.1 y38.2.2.2.2.2.2.2.2.2.2.1 y38.2.2.2.2.2.2.2.2.2.2.2.1 aS ++ w_P cI cJ cZ aQ VQ0 VQ1 VQ2 NQ0 LQ0 LQ1 LQ2 LQ3 LQ4 IQ0 IQ1 aS ++ w_T cI cJ cZ aT y38.2.2.2.2.2.2.2.2.2.2.2.2.1 y38.2.2.2.2.2.2.2.2.2.2.2.2.2.1 y38.2.2.2.2.2.2.2.2.2.2.2.2.2.2.1 y38.2.2.2.2.2.2.2.2.2.2.2.2.2.2.2.1 y38.2.2.2.2.2.2.2.2.2.2.2.2.2.2.2.2 aS) := hD
      have hwo38 := f_HaulFlows_workOut_le VS0 VS1 VS2 NS0 NS1 NS2 LS0 LS1 LS2 LS3 LS4 LS5 LS6 LS7 LS8 IS0 VY0 LY0 LY1 LY2 IY0 VP0 VP1 VP2 NP0 LP0 LP1 LP2 LP3 LP4 IP0 IP1 VT0 NT0 NT1 LT0 IT0
      rw [hy38] at hwo38
      refine va_put (D := (dC, dI)) (ci := 4) (v := .int (nI y38.1)) (ty := .int) (C := R_HaulFlows) (T := T_HaulFlows) (N := 5) hx hb hG in_HaulFlows ty_HaulFlows tok_HaulFlows nok_HaulFlows hown hK hP hD hS 0 rfl rfl 4 (by decide) (hG _ m_200) (fun _ h9 => h9) rfl (by decide +kernel) rfl rfl (Nat.le_of_ble_eq_true rfl) d_HaulFlows_run_41 (fun H locs hP hD hS => ?_)
      have hP : va_P (dC, dI) vwCl (w_H cI cJ cZ aH y38.1 aS aP aQ aT ++ w_S cI cJ cZ aS VS0 VS1 VS2 NS0 NS1 NS2 LS0 LS1 LS2 LS3 LS4 LS5 LS6 LS7 LS8 IS0 aY ++ w_Y cI cJ cZ aY VY0 LY0 LY1 LY2 IY0 ++ w_P cI cJ cZ aP y38.2.1 y38.2.2.1 y38.2.2.2.1 y38.2.2.2.2.1 y38.2.2.2.2.2.1 y38.2.2.2.2.2.2.1 y38.2.2.2.2.2.2.2.1 y38.2.2.2.2.2.2.2.2.1 y38.2.2.2.2.2.2.2.2.2.1 y38.2.2.2.2.2.2.2.2.2.2.1 y38.2.2.2.2.2.2.2.2.2.2.2.1 aS ++ w_P cI cJ cZ aQ VQ0 VQ1 VQ2 NQ0 LQ0 LQ1 LQ2 LQ3 LQ4 IQ0 IQ1 aS ++ w_T cI cJ cZ aT y38.2.2.2.2.2.2.2.2.2.2.2.2.1 y38.2.2.2.2.2.2.2.2.2.2.2.2.2.1 y38.2.2.2.2.2.2.2.2.2.2.2.2.2.2.1 y38.2.2.2.2.2.2.2.2.2.2.2.2.2.2.2.1 y38.2.2.2.2.2.2.2.2.2.2.2.2.2.2.2.2 aS) H := hP
      have hD : va_D A (w_H cI cJ cZ aH y38.1 aS aP aQ aT ++ w_S cI cJ cZ aS VS0 VS1 VS2 NS0 NS1 NS2 LS0 LS1 LS2 LS3 LS4 LS5 LS6 LS7 LS8 IS0 aY ++ w_Y cI cJ cZ aY VY0 LY0 LY1 LY2 IY0 ++ w_P cI cJ cZ aP y38.2.1 y38.2.2.1 y38.2.2.2.1 y38.2.2.2.2.1 y38.2.2.2.2.2.1 y38.2.2.2.2.2.2.1 y38.2.2.2.2.2.2.2.1 y38.2.2.2.2.2.2.2.2.1 y38.2.2.2.2.2.2.2.2.2.1 y38.2.2.2.2.2.2.2.2.2.2.1 y38.2.2.2.2.2.2.2.2.2.2.2.1 aS ++ w_P cI cJ cZ aQ VQ0 VQ1 VQ2 NQ0 LQ0 LQ1 LQ2 LQ3 LQ4 IQ0 IQ1 aS ++ w_T cI cJ cZ aT y38.2.2.2.2.2.2.2.2.2.2.2.2.1 y38.2.2.2.2.2.2.2.2.2.2.2.2.2.1 y38.2.2.2.2.2.2.2.2.2.2.2.2.2.2.1 y38.2.2.2.2.2.2.2.2.2.2.2.2.2.2.2.1 y38.2.2.2.2.2.2.2.2.2.2.2.2.2.2.2.2 aS) := hD
      refine lv_aload_n hx hb d_HaulFlows_run_44 rfl (lv_at hl 0 rfl) ?_
      refine va_get (D := (dC, dI)) (ci := 4) (v := .int (nI y38.1)) (C := R_HaulFlows) (T := T_HaulFlows) (N := 5) hx hb hG in_HaulFlows hown hK hP 0 rfl rfl 4 (by decide) (hG _ m_200) (fun _ h9 => h9) rfl d_HaulFlows_run_45 ?_
      refine lv_iconst (v := nI 1) hx hb d_HaulFlows_run_48 (by decide) ?_
      refine hw_icmp_ne (tgt := 56) hx hb d_HaulFlows_run_49 (by decide) (by omega) (by omega) (fun c49 => ?_) (fun c49 => ?_)
      · replace hR := (if_neg c49).symm.trans hR
        refine lv_iconst (v := nI 1) hx hb d_HaulFlows_run_56 (by decide) ?_
        subst hR
        exact W.iret (v := nI 1) hx hb hr (fun t ht hW => ⟨⟨_, (), rfl, rfl, by rw [ht]; exact hP, va_K.moved hW.alike hK, hD⟩, hS.F ht⟩) hS.2.2 d_HaulFlows_run_57
      · replace hR := (if_pos c49).symm.trans hR
        refine lv_iconst (v := nI 0) hx hb d_HaulFlows_run_52 (by decide) ?_
        refine lv_goto (tgt := 57) hx hb d_HaulFlows_run_53 (by decide) ?_
        subst hR
        exact W.iret (v := nI 0) hx hb hr (fun t ht hW => ⟨⟨_, (), rfl, rfl, by rw [ht]; exact hP, va_K.moved hW.alike hK, hD⟩, hS.F ht⟩) hS.2.2 d_HaulFlows_run_57
  · replace hR := (if_neg c16).symm.trans hR
    rw [hs4] at c16
    exact absurd hsteps c16
