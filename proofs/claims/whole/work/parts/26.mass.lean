abbrev b_HaulFlows_mass : ByteArray := prog_1_method_17_code
def y_HaulFlows_mass : MethodName := ⟨R_HaulFlows, "mass", "(JI)J"⟩
def u_HaulFlows_mass : List Cond := Cond.code y_HaulFlows_mass b_HaulFlows_mass 4 (some .long) :: wG
theorem d_HaulFlows_mass_0 : decode b_HaulFlows_mass 0 = .ok (.lload_n 1, 1) := by decide +kernel
theorem d_HaulFlows_mass_1 : decode b_HaulFlows_mass 1 = .ok (.invokestatic 47, 3) := by decide +kernel
theorem d_HaulFlows_mass_4 : decode b_HaulFlows_mass 4 = .ok (.ifCond .eq 24, 3) := by decide +kernel
theorem d_HaulFlows_mass_7 : decode b_HaulFlows_mass 7 = .ok (.iload_n 3, 1) := by decide +kernel
theorem d_HaulFlows_mass_8 : decode b_HaulFlows_mass 8 = .ok (.iconst 4, 1) := by decide +kernel
theorem d_HaulFlows_mass_9 : decode b_HaulFlows_mass 9 = .ok (.invokestatic 43, 3) := by decide +kernel
theorem d_HaulFlows_mass_12 : decode b_HaulFlows_mass 12 = .ok (.ifCond .eq 16, 3) := by decide +kernel
theorem d_HaulFlows_mass_15 : decode b_HaulFlows_mass 15 = .ok (.iload_n 3, 1) := by decide +kernel
theorem d_HaulFlows_mass_16 : decode b_HaulFlows_mass 16 = .ok (.iconst 2, 1) := by decide +kernel
theorem d_HaulFlows_mass_17 : decode b_HaulFlows_mass 17 = .ok (.if_icmp .lt 15, 3) := by decide +kernel
theorem d_HaulFlows_mass_20 : decode b_HaulFlows_mass 20 = .ok (.aload_n 0, 1) := by decide +kernel
theorem d_HaulFlows_mass_21 : decode b_HaulFlows_mass 21 = .ok (.getfield 35, 3) := by decide +kernel
theorem d_HaulFlows_mass_24 : decode b_HaulFlows_mass 24 = .ok (.iconst 1, 1) := by decide +kernel
theorem d_HaulFlows_mass_25 : decode b_HaulFlows_mass 25 = .ok (.if_icmp .eq 7, 3) := by decide +kernel
theorem d_HaulFlows_mass_28 : decode b_HaulFlows_mass 28 = .ok (.ldc2_w 124, 3) := by decide +kernel
theorem d_HaulFlows_mass_31 : decode b_HaulFlows_mass 31 = .ok (.lreturn, 1) := by decide +kernel
theorem d_HaulFlows_mass_32 : decode b_HaulFlows_mass 32 = .ok (.iload_n 3, 1) := by decide +kernel
theorem d_HaulFlows_mass_33 : decode b_HaulFlows_mass 33 = .ok (.tableswitch 55 0 2 #[27, 36, 45], 27) := by decide +kernel
theorem d_HaulFlows_mass_60 : decode b_HaulFlows_mass 60 = .ok (.aload_n 0, 1) := by decide +kernel
theorem d_HaulFlows_mass_61 : decode b_HaulFlows_mass 61 = .ok (.getfield 12, 3) := by decide +kernel
theorem d_HaulFlows_mass_64 : decode b_HaulFlows_mass 64 = .ok (.lload_n 1, 1) := by decide +kernel
theorem d_HaulFlows_mass_65 : decode b_HaulFlows_mass 65 = .ok (.invokevirtual 168, 3) := by decide +kernel
theorem d_HaulFlows_mass_68 : decode b_HaulFlows_mass 68 = .ok (.lreturn, 1) := by decide +kernel
theorem d_HaulFlows_mass_69 : decode b_HaulFlows_mass 69 = .ok (.aload_n 0, 1) := by decide +kernel
theorem d_HaulFlows_mass_70 : decode b_HaulFlows_mass 70 = .ok (.getfield 12, 3) := by decide +kernel
theorem d_HaulFlows_mass_73 : decode b_HaulFlows_mass 73 = .ok (.lload_n 1, 1) := by decide +kernel
theorem d_HaulFlows_mass_74 : decode b_HaulFlows_mass 74 = .ok (.invokevirtual 172, 3) := by decide +kernel
theorem d_HaulFlows_mass_77 : decode b_HaulFlows_mass 77 = .ok (.lreturn, 1) := by decide +kernel
theorem d_HaulFlows_mass_78 : decode b_HaulFlows_mass 78 = .ok (.aload_n 0, 1) := by decide +kernel
theorem d_HaulFlows_mass_79 : decode b_HaulFlows_mass 79 = .ok (.getfield 21, 3) := by decide +kernel
theorem d_HaulFlows_mass_82 : decode b_HaulFlows_mass 82 = .ok (.lload_n 1, 1) := by decide +kernel
theorem d_HaulFlows_mass_83 : decode b_HaulFlows_mass 83 = .ok (.iconst 1, 1) := by decide +kernel
theorem d_HaulFlows_mass_84 : decode b_HaulFlows_mass 84 = .ok (.invokevirtual 175, 3) := by decide +kernel
theorem d_HaulFlows_mass_87 : decode b_HaulFlows_mass 87 = .ok (.lreturn, 1) := by decide +kernel
theorem d_HaulFlows_mass_88 : decode b_HaulFlows_mass 88 = .ok (.aload_n 0, 1) := by decide +kernel
theorem d_HaulFlows_mass_89 : decode b_HaulFlows_mass 89 = .ok (.getfield 21, 3) := by decide +kernel
theorem d_HaulFlows_mass_92 : decode b_HaulFlows_mass 92 = .ok (.lload_n 1, 1) := by decide +kernel
theorem d_HaulFlows_mass_93 : decode b_HaulFlows_mass 93 = .ok (.iconst 0, 1) := by decide +kernel
theorem d_HaulFlows_mass_94 : decode b_HaulFlows_mass 94 = .ok (.invokevirtual 175, 3) := by decide +kernel
theorem d_HaulFlows_mass_97 : decode b_HaulFlows_mass 97 = .ok (.lreturn, 1) := by decide +kernel
theorem hw_lt2 {x : Int32} (h0 : ¬ x < 0) (h : x < nI 2) : x = nI 0 ∨ x = nI 1 := by
  obtain ⟨j, hj, rfl⟩ := nI_of h0
  have h2 := (nI_ltI hj (by decide)).mp h
  rcases (show j = 0 ∨ j = 1 by omega) with rfl | rfl
  · exact Or.inl rfl
  · exact Or.inr rfl
def f_HaulFlows_mass (VH0 : Nat) (VS0 : Nat) (VS2 : Nat) (NS0 : Nat → Nat) (LS0 : Nat → Int64) (LS1 : Nat → Int64) (LS2 : Nat → Int64) (LS4 : Nat → Int64) (LS5 : Nat → Int64) (LS6 : Nat → Int64) (LS7 : Nat → Int64) (VP0 : Nat) (VP1 : Nat) (LP1 : Nat → Int64) (x1 : Int64) (x3 : Int32) : Int64 :=
  hh_bind (f_HaulFlows_isMetre x1) (fun y1 => if y1 = 0 then ((-1)) else (hh_bind (f_HaulFlows_isBelow x3 (nI 4)) (fun y9 => if y9 = 0 then ((-1)) else (if x3 < (nI 2) then (if x3 = nI 0 then (hh_bind (f_Site_givenUpTo VS0 NS0 LS0 LS1 LS6 LS7 x1) (fun y65 => (y65))) else (if x3 = nI 1 then (hh_bind (f_Site_wantedUpTo VS2 LS4 LS5 x1) (fun y74 => (y74))) else (if x3 = nI 2 then (hh_bind (f_Plan_amountAcross VP0 VP1 LP1 VS0 LS1 LS2 LS5 x1 (nI 1)) (fun y84 => (y84))) else (hh_bind (f_Plan_amountAcross VP0 VP1 LP1 VS0 LS1 LS2 LS5 x1 (nI 0)) (fun y94 => (y94)))))) else (if VH0 = 1 then (if x3 = nI 0 then (hh_bind (f_Site_givenUpTo VS0 NS0 LS0 LS1 LS6 LS7 x1) (fun y65 => (y65))) else (if x3 = nI 1 then (hh_bind (f_Site_wantedUpTo VS2 LS4 LS5 x1) (fun y74 => (y74))) else (if x3 = nI 2 then (hh_bind (f_Plan_amountAcross VP0 VP1 LP1 VS0 LS1 LS2 LS5 x1 (nI 1)) (fun y84 => (y84))) else (hh_bind (f_Plan_amountAcross VP0 VP1 LP1 VS0 LS1 LS2 LS5 x1 (nI 0)) (fun y94 => (y94)))))) else ((-1)))))))
set_option maxHeartbeats 4000000 in
set_option maxRecDepth 100000 in
theorem c_HaulFlows_mass (l : Launch) (dC : Nat → ClassId) (dI : Nat → Nat → Nat) (cI cJ cZ : ClassId) (sz : Nat) (aH : Nat → Nat) (VH0 : Nat) (aS : Nat → Nat) (VS0 : Nat) (VS1 : Nat) (VS2 : Nat) (NS0 : Nat → Nat) (NS1 : Nat → Nat) (NS2 : Nat → Nat) (LS0 : Nat → Int64) (LS1 : Nat → Int64) (LS2 : Nat → Int64) (LS3 : Nat → Int64) (LS4 : Nat → Int64) (LS5 : Nat → Int64) (LS6 : Nat → Int64) (LS7 : Nat → Int64) (LS8 : Nat → Int64) (IS0 : Nat → Int32) (aY : Nat → Nat) (VY0 : Nat) (LY0 : Nat → Int64) (LY1 : Nat → Int64) (LY2 : Nat → Int64) (IY0 : Nat → Int32) (aP : Nat → Nat) (VP0 : Nat) (VP1 : Nat) (VP2 : Nat) (NP0 : Nat → Nat) (LP0 : Nat → Int64) (LP1 : Nat → Int64) (LP2 : Nat → Int64) (LP3 : Nat → Int64) (LP4 : Nat → Int64) (IP0 : Nat → Int32) (IP1 : Nat → Int32) (aQ : Nat → Nat) (VQ0 : Nat) (VQ1 : Nat) (VQ2 : Nat) (NQ0 : Nat → Nat) (LQ0 : Nat → Int64) (LQ1 : Nat → Int64) (LQ2 : Nat → Int64) (LQ3 : Nat → Int64) (LQ4 : Nat → Int64) (IQ0 : Nat → Int32) (IQ1 : Nat → Int32) (aT : Nat → Nat) (VT0 : Nat) (NT0 : Nat → Nat) (NT1 : Nat → Nat) (LT0 : Nat → Int64) (IT0 : Nat → Int32) (x1 : Int64) (x3 : Int32) (hc8 : VS0 ≤ 8) (hp4 : VS1 ≤ 4) (hf8 : VS2 ≤ 8) (hy6 : VY0 ≤ 6) (hk4 : ∀ i, NS0 i < 4) (hcw : ∀ i, NS1 i < 12) (hfw : ∀ i, NS2 i < 12) (hq : ∀ i, NP0 i < 21) (htq : ∀ i, NT1 i < 34) (hst : VH0 ≤ 2) (hpl : VH0 = 1 → VP0 = VS0 + VS1 ∧ VP1 = VS2) (hsf : VT0 ≤ 8) : hh_Cl l y_HaulFlows_mass u_HaulFlows_mass ({ frames := 2, cells := 0, slots := 0, locals := 51 }) (dC, dI) vwCl [(cI, .int), (cJ, .long), (cZ, .boolean)] (w_H cI cJ cZ aH VH0 aS aP aQ aT ++ w_S cI cJ cZ aS VS0 VS1 VS2 NS0 NS1 NS2 LS0 LS1 LS2 LS3 LS4 LS5 LS6 LS7 LS8 IS0 aY ++ w_Y cI cJ cZ aY VY0 LY0 LY1 LY2 IY0 ++ w_P cI cJ cZ aP VP0 VP1 VP2 NP0 LP0 LP1 LP2 LP3 LP4 IP0 IP1 aS ++ w_P cI cJ cZ aQ VQ0 VQ1 VQ2 NQ0 LQ0 LQ1 LQ2 LQ3 LQ4 IQ0 IQ1 aS ++ w_T cI cJ cZ aT VT0 NT0 NT1 LT0 IT0 aS) sz [.ref (aH 0), .long x1, .int x3] (f_HaulFlows_mass VH0 VS0 VS2 NS0 LS0 LS1 LS2 LS4 LS5 LS6 LS7 VP0 VP1 LP1 x1 x3) (w_H cI cJ cZ aH VH0 aS aP aQ aT ++ w_S cI cJ cZ aS VS0 VS1 VS2 NS0 NS1 NS2 LS0 LS1 LS2 LS3 LS4 LS5 LS6 LS7 LS8 IS0 aY ++ w_Y cI cJ cZ aY VY0 LY0 LY1 LY2 IY0 ++ w_P cI cJ cZ aP VP0 VP1 VP2 NP0 LP0 LP1 LP2 LP3 LP4 IP0 IP1 aS ++ w_P cI cJ cZ aQ VQ0 VQ1 VQ2 NQ0 LQ0 LQ1 LQ2 LQ3 LQ4 IQ0 IQ1 aS ++ w_T cI cJ cZ aT VT0 NT0 NT1 LT0 IT0 aS) 0 0 := by
  unfold hh_Cl
  refine Met.ofW (cc := b_HaulFlows_mass) (maxL := 4) (ret := (some .long)) (by decide) rfl ?_
  intro p e s m args below meth c s₁ B hml hv
  obtain ⟨rfl, hsz, hP, hK, hD0⟩ := hv
  have hx := B.exec
  have hb := B.bytes
  have hr := B.returns
  have hts := atoms_spec (ws := u_HaulFlows_mass) B.pre
  have hG : ∀ w ∈ wG, w.before ([.ref (aH 0), .long x1, .int x3]).toArray s = true := fun w h => hts w (List.mem_cons_of_mem _ h)
  have hown : s.vm.findClass R_HaulFlows = some m.cls := findClass_of_methodNamed B.named
  have hlocks := B.notSynchronized
  subst hsz
  have hD := hD0.self (sz := s.heap.size)
  generalize hAe : va_A (w_H cI cJ cZ aH VH0 aS aP aQ aT ++ w_S cI cJ cZ aS VS0 VS1 VS2 NS0 NS1 NS2 LS0 LS1 LS2 LS3 LS4 LS5 LS6 LS7 LS8 IS0 aY ++ w_Y cI cJ cZ aY VY0 LY0 LY1 LY2 IY0 ++ w_P cI cJ cZ aP VP0 VP1 VP2 NP0 LP0 LP1 LP2 LP3 LP4 IP0 IP1 aS ++ w_P cI cJ cZ aQ VQ0 VQ1 VQ2 NQ0 LQ0 LQ1 LQ2 LQ3 LQ4 IQ0 IQ1 aS ++ w_T cI cJ cZ aT VT0 NT0 NT1 LT0 IT0 aS) s.heap.size = A at hD ⊢
  have hA : ∀ q : Nat, s.heap.size ≤ q → A q := fun q h => by rw [← hAe]; exact Or.inr h
  have hS : va_S A s.heap s.heap [] := va_S.rf
  have hl := lv_entry ([.ref (aH 0), .long x1, .int x3]) (n := 4) (Nat.le_of_ble_eq_true rfl)
  rw [lg_entry_eq]
  generalize (lg_sl ([.ref (aH 0), .long x1, .int x3]) ++ List.replicate (4 - (lg_sl ([.ref (aH 0), .long x1, .int x3])).length) Slot.unset).toArray = ls at hl ⊢
  have hl : lv_has ls 4 [(0, .ref (aH 0)), (1, .long x1), (3, .int x3)] := hl
  generalize hR : f_HaulFlows_mass VH0 VS0 VS2 NS0 LS0 LS1 LS2 LS4 LS5 LS6 LS7 VP0 VP1 LP1 x1 x3 = r0
  obtain ⟨H, locs, hHe, hle⟩ : ∃ (H : Heap) (locs : List Loc), s.heap = H ∧ [] = locs := ⟨_, _, rfl, rfl⟩
  have hP : va_P (dC, dI) vwCl (w_H cI cJ cZ aH VH0 aS aP aQ aT ++ w_S cI cJ cZ aS VS0 VS1 VS2 NS0 NS1 NS2 LS0 LS1 LS2 LS3 LS4 LS5 LS6 LS7 LS8 IS0 aY ++ w_Y cI cJ cZ aY VY0 LY0 LY1 LY2 IY0 ++ w_P cI cJ cZ aP VP0 VP1 VP2 NP0 LP0 LP1 LP2 LP3 LP4 IP0 IP1 aS ++ w_P cI cJ cZ aQ VQ0 VQ1 VQ2 NQ0 LQ0 LQ1 LQ2 LQ3 LQ4 IQ0 IQ1 aS ++ w_T cI cJ cZ aT VT0 NT0 NT1 LT0 IT0 aS) H := by rw [← hHe]; exact hP
  have hS : va_S A s.heap H locs := by rw [← hHe, ← hle]; exact hS
  refine hw_start hHe hle ?_
  unfold f_HaulFlows_mass at hR
  refine lv_lload_n hx hb d_HaulFlows_mass_0 rfl (lv_at hl 1 rfl) ?_
  obtain ⟨y1, hy1, hR⟩ := hw_bind hR
  have hM := c_HaulFlows_isMetre l dC dI cI cJ cZ H.size x1
  rw [hy1] at hM
  refine hw_callSi (As := [.long x1]) (rest := []) (wr := w_H cI cJ cZ aH VH0 aS aP aQ aT ++ w_S cI cJ cZ aS VS0 VS1 VS2 NS0 NS1 NS2 LS0 LS1 LS2 LS3 LS4 LS5 LS6 LS7 LS8 IS0 aY ++ w_Y cI cJ cZ aY VY0 LY0 LY1 LY2 IY0 ++ w_P cI cJ cZ aP VP0 VP1 VP2 NP0 LP0 LP1 LP2 LP3 LP4 IP0 IP1 aS ++ w_P cI cJ cZ aQ VQ0 VQ1 VQ2 NQ0 LQ0 LQ1 LQ2 LQ3 LQ4 IQ0 IQ1 aS ++ w_T cI cJ cZ aT VT0 NT0 NT1 LT0 IT0 aS) ⟨hx, hb, hml, hown, hG⟩ hM (hw_cwS 1 hG m_223 m_224 m_1 m_225 rfl rfl (by decide +kernel) ⟨Nat.le_of_ble_eq_true rfl, Nat.le_of_ble_eq_true rfl⟩) hK hP hD hS hA [] [0, 1, 2, 3, 4, 5, 6, 7, 8, 9, 10, 11, 12, 13, 14, 15, 16, 17, 18, 19, 20, 21, 22, 23, 24, 25, 26, 27, 28, 29, 30, 31, 32, 33, 34, 35, 36, 37, 38, 39, 40, 41, 42] rfl rfl (by decide) (by decide) (by decide) rfl hl.1 rfl (Nat.le_of_ble_eq_true rfl) d_HaulFlows_mass_1 ⟨Nat.le_of_ble_eq_true rfl, Nat.le_of_ble_eq_true rfl⟩ (fun H locs hP hD hS => ?_)
  have hP : va_P (dC, dI) vwCl (w_H cI cJ cZ aH VH0 aS aP aQ aT ++ w_S cI cJ cZ aS VS0 VS1 VS2 NS0 NS1 NS2 LS0 LS1 LS2 LS3 LS4 LS5 LS6 LS7 LS8 IS0 aY ++ w_Y cI cJ cZ aY VY0 LY0 LY1 LY2 IY0 ++ w_P cI cJ cZ aP VP0 VP1 VP2 NP0 LP0 LP1 LP2 LP3 LP4 IP0 IP1 aS ++ w_P cI cJ cZ aQ VQ0 VQ1 VQ2 NQ0 LQ0 LQ1 LQ2 LQ3 LQ4 IQ0 IQ1 aS ++ w_T cI cJ cZ aT VT0 NT0 NT1 LT0 IT0 aS) H := hP
  have hD : va_D A (w_H cI cJ cZ aH VH0 aS aP aQ aT ++ w_S cI cJ cZ aS VS0 VS1 VS2 NS0 NS1 NS2 LS0 LS1 LS2 LS3 LS4 LS5 LS6 LS7 LS8 IS0 aY ++ w_Y cI cJ cZ aY VY0 LY0 LY1 LY2 IY0 ++ w_P cI cJ cZ aP VP0 VP1 VP2 NP0 LP0 LP1 LP2 LP3 LP4 IP0 IP1 aS ++ w_P cI cJ cZ aQ VQ0 VQ1 VQ2 NQ0 LQ0 LQ1 LQ2 LQ3 LQ4 IQ0 IQ1 aS ++ w_T cI cJ cZ aT VT0 NT0 NT1 LT0 IT0 aS) := hD
  refine lv_if_eq (tgt := 28) hx hb d_HaulFlows_mass_4 (by decide) (fun c4 => ?_) (fun c4 => ?_)
  · replace hR := (if_pos c4).symm.trans hR
    refine lv_ldc2 (v := (-1)) hx hb hown (hG _ m_295) d_HaulFlows_mass_28 ?_
    subst hR
    exact W.lret (v := (-1)) hx hb hr (fun t ht hW => ⟨⟨_, (), rfl, rfl, by rw [ht]; exact hP, va_K.moved hW.alike hK, hD⟩, hS.F ht⟩) hS.2.2 d_HaulFlows_mass_31
  · replace hR := (if_neg c4).symm.trans hR
    refine lv_iload_n hx hb d_HaulFlows_mass_7 rfl (lv_at hl 2 rfl) ?_
    refine lv_iconst (v := nI 4) hx hb d_HaulFlows_mass_8 (by decide) ?_
    obtain ⟨y9, hy9, hR⟩ := hw_bind hR
    have hM := c_HaulFlows_isBelow l dC dI cI cJ cZ H.size x3 (nI 4)
    rw [hy9] at hM
    refine hw_callSi (As := [.int x3, .int (nI 4)]) (rest := []) (wr := w_H cI cJ cZ aH VH0 aS aP aQ aT ++ w_S cI cJ cZ aS VS0 VS1 VS2 NS0 NS1 NS2 LS0 LS1 LS2 LS3 LS4 LS5 LS6 LS7 LS8 IS0 aY ++ w_Y cI cJ cZ aY VY0 LY0 LY1 LY2 IY0 ++ w_P cI cJ cZ aP VP0 VP1 VP2 NP0 LP0 LP1 LP2 LP3 LP4 IP0 IP1 aS ++ w_P cI cJ cZ aQ VQ0 VQ1 VQ2 NQ0 LQ0 LQ1 LQ2 LQ3 LQ4 IQ0 IQ1 aS ++ w_T cI cJ cZ aT VT0 NT0 NT1 LT0 IT0 aS) ⟨hx, hb, hml, hown, hG⟩ hM (hw_cwS 2 hG m_220 m_221 m_1 m_222 rfl rfl (by decide +kernel) ⟨Nat.le_of_ble_eq_true rfl, Nat.le_of_ble_eq_true rfl⟩) hK hP hD hS hA [] [0, 1, 2, 3, 4, 5, 6, 7, 8, 9, 10, 11, 12, 13, 14, 15, 16, 17, 18, 19, 20, 21, 22, 23, 24, 25, 26, 27, 28, 29, 30, 31, 32, 33, 34, 35, 36, 37, 38, 39, 40, 41, 42] rfl rfl (by decide) (by decide) (by decide) rfl hl.1 rfl (Nat.le_of_ble_eq_true rfl) d_HaulFlows_mass_9 ⟨Nat.le_of_ble_eq_true rfl, Nat.le_of_ble_eq_true rfl⟩ (fun H locs hP hD hS => ?_)
    have hP : va_P (dC, dI) vwCl (w_H cI cJ cZ aH VH0 aS aP aQ aT ++ w_S cI cJ cZ aS VS0 VS1 VS2 NS0 NS1 NS2 LS0 LS1 LS2 LS3 LS4 LS5 LS6 LS7 LS8 IS0 aY ++ w_Y cI cJ cZ aY VY0 LY0 LY1 LY2 IY0 ++ w_P cI cJ cZ aP VP0 VP1 VP2 NP0 LP0 LP1 LP2 LP3 LP4 IP0 IP1 aS ++ w_P cI cJ cZ aQ VQ0 VQ1 VQ2 NQ0 LQ0 LQ1 LQ2 LQ3 LQ4 IQ0 IQ1 aS ++ w_T cI cJ cZ aT VT0 NT0 NT1 LT0 IT0 aS) H := hP
    have hD : va_D A (w_H cI cJ cZ aH VH0 aS aP aQ aT ++ w_S cI cJ cZ aS VS0 VS1 VS2 NS0 NS1 NS2 LS0 LS1 LS2 LS3 LS4 LS5 LS6 LS7 LS8 IS0 aY ++ w_Y cI cJ cZ aY VY0 LY0 LY1 LY2 IY0 ++ w_P cI cJ cZ aP VP0 VP1 VP2 NP0 LP0 LP1 LP2 LP3 LP4 IP0 IP1 aS ++ w_P cI cJ cZ aQ VQ0 VQ1 VQ2 NQ0 LQ0 LQ1 LQ2 LQ3 LQ4 IQ0 IQ1 aS ++ w_T cI cJ cZ aT VT0 NT0 NT1 LT0 IT0 aS) := hD
    have hbl9 := hp_below (x := x3) (n := 4) (by omega)
    rw [hy9] at hbl9
    refine lv_if_eq (tgt := 28) hx hb d_HaulFlows_mass_12 (by decide) (fun c12 => ?_) (fun c12 => ?_)
    · replace hR := (if_pos c12).symm.trans hR
      refine lv_ldc2 (v := (-1)) hx hb hown (hG _ m_295) d_HaulFlows_mass_28 ?_
      subst hR
      exact W.lret (v := (-1)) hx hb hr (fun t ht hW => ⟨⟨_, (), rfl, rfl, by rw [ht]; exact hP, va_K.moved hW.alike hK, hD⟩, hS.F ht⟩) hS.2.2 d_HaulFlows_mass_31
    · replace hR := (if_neg c12).symm.trans hR
      refine lv_iload_n hx hb d_HaulFlows_mass_15 rfl (lv_at hl 2 rfl) ?_
      refine lv_iconst (v := nI 2) hx hb d_HaulFlows_mass_16 (by decide) ?_
      refine lv_icmp_lt (tgt := 32) hx hb d_HaulFlows_mass_17 (by decide) (fun c17 => ?_) (fun c17 => ?_)
      · replace hR := (if_pos c17).symm.trans hR
        refine lv_iload_n hx hb d_HaulFlows_mass_32 rfl (lv_at hl 2 rfl) ?_
        by_cases c33_0 : x3 = nI 0
        · replace hR := (if_pos c33_0).symm.trans hR
          refine lv_tableIn (off := 27) (tgt := 60) hx hb d_HaulFlows_mass_33 (by rw [c33_0]; decide) (by rw [c33_0]; decide) (by rw [c33_0]; rfl) (by decide) ?_
          refine lv_aload_n hx hb d_HaulFlows_mass_60 rfl (lv_at hl 0 rfl) ?_
          refine va_get (D := (dC, dI)) (ci := 4) (v := .ref (aS 0)) (C := R_HaulFlows) (T := T_HaulFlows) (N := 5) hx hb hG in_HaulFlows hown hK hP 0 rfl rfl 0 (by decide) (hG _ m_196) (fun _ h9 => h9) rfl d_HaulFlows_mass_61 ?_
          refine lv_lload_n hx hb d_HaulFlows_mass_64 rfl (lv_at hl 1 rfl) ?_
          obtain ⟨y65, hy65, hR⟩ := hw_bind hR
          have hM := c_Site_givenUpTo l dC dI cI cJ cZ H.size aS VS0 VS1 VS2 NS0 NS1 NS2 LS0 LS1 LS2 LS3 LS4 LS5 LS6 LS7 LS8 IS0 aY VY0 LY0 LY1 LY2 IY0 x1 (by first | assumption | omega) (by first | assumption | omega)
          rw [hy65] at hM
          refine hw_callVl (As := [.long x1]) (rest := []) (wr := w_H cI cJ cZ aH VH0 aS aP aQ aT ++ w_P cI cJ cZ aP VP0 VP1 VP2 NP0 LP0 LP1 LP2 LP3 LP4 IP0 IP1 aS ++ w_P cI cJ cZ aQ VQ0 VQ1 VQ2 NQ0 LQ0 LQ1 LQ2 LQ3 LQ4 IQ0 IQ1 aS ++ w_T cI cJ cZ aT VT0 NT0 NT1 LT0 IT0 aS) ⟨hx, hb, hml, hown, hG⟩ hM (hw_cwV 1 hG m_434 m_435 m_436 m_2 m_437 rfl rfl (by decide +kernel) ⟨Nat.le_of_ble_eq_true rfl, Nat.le_of_ble_eq_true rfl⟩) hK hP hD hS hA [1, 2, 3, 4, 5, 6, 7, 8, 9, 10, 11, 12, 13, 14, 15, 16, 17, 18, 19] [0, 20, 21, 22, 23, 24, 25, 26, 27, 28, 29, 30, 31, 32, 33, 34, 35, 36, 37, 38, 39, 40, 41, 42] rfl rfl (by decide) (by decide) (by decide) (hw_recv hK hP 1 rfl rfl) rfl hl.1 rfl (Nat.le_of_ble_eq_true rfl) d_HaulFlows_mass_65 ⟨Nat.le_of_ble_eq_true rfl, Nat.le_of_ble_eq_true rfl⟩ (fun H locs hP hD hS => ?_)
          have hP : va_P (dC, dI) vwCl (w_H cI cJ cZ aH VH0 aS aP aQ aT ++ w_S cI cJ cZ aS VS0 VS1 VS2 NS0 NS1 NS2 LS0 LS1 LS2 LS3 LS4 LS5 LS6 LS7 LS8 IS0 aY ++ w_Y cI cJ cZ aY VY0 LY0 LY1 LY2 IY0 ++ w_P cI cJ cZ aP VP0 VP1 VP2 NP0 LP0 LP1 LP2 LP3 LP4 IP0 IP1 aS ++ w_P cI cJ cZ aQ VQ0 VQ1 VQ2 NQ0 LQ0 LQ1 LQ2 LQ3 LQ4 IQ0 IQ1 aS ++ w_T cI cJ cZ aT VT0 NT0 NT1 LT0 IT0 aS) H := hP.sub [0, 24, 25, 26, 27, 28, 29, 30, 31, 32, 33, 34, 35, 36, 37, 38, 39, 40, 41, 42, 1, 2, 3, 4, 5, 6, 7, 8, 9, 10, 11, 12, 13, 14, 15, 16, 17, 18, 19, 20, 21, 22, 23] rfl
          have hD : va_D A (w_H cI cJ cZ aH VH0 aS aP aQ aT ++ w_S cI cJ cZ aS VS0 VS1 VS2 NS0 NS1 NS2 LS0 LS1 LS2 LS3 LS4 LS5 LS6 LS7 LS8 IS0 aY ++ w_Y cI cJ cZ aY VY0 LY0 LY1 LY2 IY0 ++ w_P cI cJ cZ aP VP0 VP1 VP2 NP0 LP0 LP1 LP2 LP3 LP4 IP0 IP1 aS ++ w_P cI cJ cZ aQ VQ0 VQ1 VQ2 NQ0 LQ0 LQ1 LQ2 LQ3 LQ4 IQ0 IQ1 aS ++ w_T cI cJ cZ aT VT0 NT0 NT1 LT0 IT0 aS) := hD.sub [0, 24, 25, 26, 27, 28, 29, 30, 31, 32, 33, 34, 35, 36, 37, 38, 39, 40, 41, 42, 1, 2, 3, 4, 5, 6, 7, 8, 9, 10, 11, 12, 13, 14, 15, 16, 17, 18, 19, 20, 21, 22, 23] (by decide) rfl
          subst hR
          exact W.lret (v := y65) hx hb hr (fun t ht hW => ⟨⟨_, (), rfl, rfl, by rw [ht]; exact hP, va_K.moved hW.alike hK, hD⟩, hS.F ht⟩) hS.2.2 d_HaulFlows_mass_68
        · replace hR := (if_neg c33_0).symm.trans hR
          by_cases c33_1 : x3 = nI 1
          · replace hR := (if_pos c33_1).symm.trans hR
            refine lv_tableIn (off := 36) (tgt := 69) hx hb d_HaulFlows_mass_33 (by rw [c33_1]; decide) (by rw [c33_1]; decide) (by rw [c33_1]; rfl) (by decide) ?_
            refine lv_aload_n hx hb d_HaulFlows_mass_69 rfl (lv_at hl 0 rfl) ?_
            refine va_get (D := (dC, dI)) (ci := 4) (v := .ref (aS 0)) (C := R_HaulFlows) (T := T_HaulFlows) (N := 5) hx hb hG in_HaulFlows hown hK hP 0 rfl rfl 0 (by decide) (hG _ m_196) (fun _ h9 => h9) rfl d_HaulFlows_mass_70 ?_
            refine lv_lload_n hx hb d_HaulFlows_mass_73 rfl (lv_at hl 1 rfl) ?_
            obtain ⟨y74, hy74, hR⟩ := hw_bind hR
            have hM := c_Site_wantedUpTo l dC dI cI cJ cZ H.size aS VS0 VS1 VS2 NS0 NS1 NS2 LS0 LS1 LS2 LS3 LS4 LS5 LS6 LS7 LS8 IS0 aY VY0 LY0 LY1 LY2 IY0 x1 (by first | assumption | omega)
            rw [hy74] at hM
            refine hw_callVl (As := [.long x1]) (rest := []) (wr := w_H cI cJ cZ aH VH0 aS aP aQ aT ++ w_P cI cJ cZ aP VP0 VP1 VP2 NP0 LP0 LP1 LP2 LP3 LP4 IP0 IP1 aS ++ w_P cI cJ cZ aQ VQ0 VQ1 VQ2 NQ0 LQ0 LQ1 LQ2 LQ3 LQ4 IQ0 IQ1 aS ++ w_T cI cJ cZ aT VT0 NT0 NT1 LT0 IT0 aS) ⟨hx, hb, hml, hown, hG⟩ hM (hw_cwV 1 hG m_438 m_439 m_440 m_2 m_441 rfl rfl (by decide +kernel) ⟨Nat.le_of_ble_eq_true rfl, Nat.le_of_ble_eq_true rfl⟩) hK hP hD hS hA [1, 2, 3, 4, 5, 6, 7, 8, 9, 10, 11, 12, 13, 14, 15, 16, 17, 18, 19] [0, 20, 21, 22, 23, 24, 25, 26, 27, 28, 29, 30, 31, 32, 33, 34, 35, 36, 37, 38, 39, 40, 41, 42] rfl rfl (by decide) (by decide) (by decide) (hw_recv hK hP 1 rfl rfl) rfl hl.1 rfl (Nat.le_of_ble_eq_true rfl) d_HaulFlows_mass_74 ⟨Nat.le_of_ble_eq_true rfl, Nat.le_of_ble_eq_true rfl⟩ (fun H locs hP hD hS => ?_)
            have hP : va_P (dC, dI) vwCl (w_H cI cJ cZ aH VH0 aS aP aQ aT ++ w_S cI cJ cZ aS VS0 VS1 VS2 NS0 NS1 NS2 LS0 LS1 LS2 LS3 LS4 LS5 LS6 LS7 LS8 IS0 aY ++ w_Y cI cJ cZ aY VY0 LY0 LY1 LY2 IY0 ++ w_P cI cJ cZ aP VP0 VP1 VP2 NP0 LP0 LP1 LP2 LP3 LP4 IP0 IP1 aS ++ w_P cI cJ cZ aQ VQ0 VQ1 VQ2 NQ0 LQ0 LQ1 LQ2 LQ3 LQ4 IQ0 IQ1 aS ++ w_T cI cJ cZ aT VT0 NT0 NT1 LT0 IT0 aS) H := hP.sub [0, 24, 25, 26, 27, 28, 29, 30, 31, 32, 33, 34, 35, 36, 37, 38, 39, 40, 41, 42, 1, 2, 3, 4, 5, 6, 7, 8, 9, 10, 11, 12, 13, 14, 15, 16, 17, 18, 19, 20, 21, 22, 23] rfl
            have hD : va_D A (w_H cI cJ cZ aH VH0 aS aP aQ aT ++ w_S cI cJ cZ aS VS0 VS1 VS2 NS0 NS1 NS2 LS0 LS1 LS2 LS3 LS4 LS5 LS6 LS7 LS8 IS0 aY ++ w_Y cI cJ cZ aY VY0 LY0 LY1 LY2 IY0 ++ w_P cI cJ cZ aP VP0 VP1 VP2 NP0 LP0 LP1 LP2 LP3 LP4 IP0 IP1 aS ++ w_P cI cJ cZ aQ VQ0 VQ1 VQ2 NQ0 LQ0 LQ1 LQ2 LQ3 LQ4 IQ0 IQ1 aS ++ w_T cI cJ cZ aT VT0 NT0 NT1 LT0 IT0 aS) := hD.sub [0, 24, 25, 26, 27, 28, 29, 30, 31, 32, 33, 34, 35, 36, 37, 38, 39, 40, 41, 42, 1, 2, 3, 4, 5, 6, 7, 8, 9, 10, 11, 12, 13, 14, 15, 16, 17, 18, 19, 20, 21, 22, 23] (by decide) rfl
            subst hR
            exact W.lret (v := y74) hx hb hr (fun t ht hW => ⟨⟨_, (), rfl, rfl, by rw [ht]; exact hP, va_K.moved hW.alike hK, hD⟩, hS.F ht⟩) hS.2.2 d_HaulFlows_mass_77
          · replace hR := (if_neg c33_1).symm.trans hR
            by_cases c33_2 : x3 = nI 2
            · replace hR := (if_pos c33_2).symm.trans hR
              refine lv_tableIn (off := 45) (tgt := 78) hx hb d_HaulFlows_mass_33 (by rw [c33_2]; decide) (by rw [c33_2]; decide) (by rw [c33_2]; rfl) (by decide) ?_
              have hv1 : VH0 = 1 := by first | assumption | exact absurd c17 (by rw [c33_2]; decide)
              obtain ⟨hpl0, hpl1⟩ := hpl hv1
              refine lv_aload_n hx hb d_HaulFlows_mass_78 rfl (lv_at hl 0 rfl) ?_
              refine va_get (D := (dC, dI)) (ci := 4) (v := .ref (aP 0)) (C := R_HaulFlows) (T := T_HaulFlows) (N := 5) hx hb hG in_HaulFlows hown hK hP 0 rfl rfl 1 (by decide) (hG _ m_197) (fun _ h9 => h9) rfl d_HaulFlows_mass_79 ?_
              refine lv_lload_n hx hb d_HaulFlows_mass_82 rfl (lv_at hl 1 rfl) ?_
              refine lv_iconst (v := nI 1) hx hb d_HaulFlows_mass_83 (by decide) ?_
              obtain ⟨y84, hy84, hR⟩ := hw_bind hR
              have hM := c_Plan_amountAcross l dC dI cI cJ cZ H.size aP VP0 VP1 VP2 NP0 LP0 LP1 LP2 LP3 LP4 IP0 IP1 aS VS0 VS1 VS2 NS0 NS1 NS2 LS0 LS1 LS2 LS3 LS4 LS5 LS6 LS7 LS8 IS0 aY VY0 LY0 LY1 LY2 IY0 x1 (nI 1) (by first | assumption | omega) (by first | assumption | omega) (by first | assumption | omega) (by first | assumption | omega) (by first | assumption | omega)
              rw [hy84] at hM
              refine hw_callVl (As := [.long x1, .int (nI 1)]) (rest := []) (wr := w_H cI cJ cZ aH VH0 aS aP aQ aT ++ w_P cI cJ cZ aQ VQ0 VQ1 VQ2 NQ0 LQ0 LQ1 LQ2 LQ3 LQ4 IQ0 IQ1 aS ++ w_T cI cJ cZ aT VT0 NT0 NT1 LT0 IT0 aS) ⟨hx, hb, hml, hown, hG⟩ hM (hw_cwV 2 hG m_442 m_443 m_444 m_5 m_445 rfl rfl (by decide +kernel) ⟨Nat.le_of_ble_eq_true rfl, Nat.le_of_ble_eq_true rfl⟩) hK hP hD hS hA [20, 21, 22, 23, 24, 25, 26, 27, 28, 1, 2, 3, 4, 5, 6, 7, 8, 9, 10, 11, 12, 13, 14, 15, 16, 17, 18, 19] [0, 29, 30, 31, 32, 33, 34, 35, 36, 37, 38, 39, 40, 41, 42] rfl rfl (by decide) (by decide) (by decide) (hw_recv hK hP 20 rfl rfl) rfl hl.1 rfl (Nat.le_of_ble_eq_true rfl) d_HaulFlows_mass_84 ⟨Nat.le_of_ble_eq_true rfl, Nat.le_of_ble_eq_true rfl⟩ (fun H locs hP hD hS => ?_)
              have hP : va_P (dC, dI) vwCl (w_H cI cJ cZ aH VH0 aS aP aQ aT ++ w_S cI cJ cZ aS VS0 VS1 VS2 NS0 NS1 NS2 LS0 LS1 LS2 LS3 LS4 LS5 LS6 LS7 LS8 IS0 aY ++ w_Y cI cJ cZ aY VY0 LY0 LY1 LY2 IY0 ++ w_P cI cJ cZ aP VP0 VP1 VP2 NP0 LP0 LP1 LP2 LP3 LP4 IP0 IP1 aS ++ w_P cI cJ cZ aQ VQ0 VQ1 VQ2 NQ0 LQ0 LQ1 LQ2 LQ3 LQ4 IQ0 IQ1 aS ++ w_T cI cJ cZ aT VT0 NT0 NT1 LT0 IT0 aS) H := hP.sub [0, 24, 25, 26, 27, 28, 29, 30, 31, 32, 33, 34, 35, 36, 37, 38, 39, 40, 41, 42, 15, 16, 17, 18, 19, 20, 21, 22, 23, 1, 2, 3, 4, 5, 6, 7, 8, 9, 10, 11, 12, 13, 14] rfl
              have hD : va_D A (w_H cI cJ cZ aH VH0 aS aP aQ aT ++ w_S cI cJ cZ aS VS0 VS1 VS2 NS0 NS1 NS2 LS0 LS1 LS2 LS3 LS4 LS5 LS6 LS7 LS8 IS0 aY ++ w_Y cI cJ cZ aY VY0 LY0 LY1 LY2 IY0 ++ w_P cI cJ cZ aP VP0 VP1 VP2 NP0 LP0 LP1 LP2 LP3 LP4 IP0 IP1 aS ++ w_P cI cJ cZ aQ VQ0 VQ1 VQ2 NQ0 LQ0 LQ1 LQ2 LQ3 LQ4 IQ0 IQ1 aS ++ w_T cI cJ cZ aT VT0 NT0 NT1 LT0 IT0 aS) := hD.sub [0, 24, 25, 26, 27, 28, 29, 30, 31, 32, 33, 34, 35, 36, 37, 38, 39, 40, 41, 42, 15, 16, 17, 18, 19, 20, 21, 22, 23, 1, 2, 3, 4, 5, 6, 7, 8, 9, 10, 11, 12, 13, 14] (by decide) rfl
              subst hR
              exact W.lret (v := y84) hx hb hr (fun t ht hW => ⟨⟨_, (), rfl, rfl, by rw [ht]; exact hP, va_K.moved hW.alike hK, hD⟩, hS.F ht⟩) hS.2.2 d_HaulFlows_mass_87
            · replace hR := (if_neg c33_2).symm.trans hR
              refine lv_tableOut (tgt := 88) hx hb d_HaulFlows_mass_33 (by have h0 := hw_ti 0 (by decide) c33_0; have h1 := hw_ti 1 (by decide) c33_1; have h2 := hw_ti 2 (by decide) c33_2; omega) (by decide) ?_
              have hv1 : VH0 = 1 := by first | assumption | exact absurd (hw_lt2 (hbl9 c12).1 c17) (fun q => q.elim c33_0 c33_1)
              obtain ⟨hpl0, hpl1⟩ := hpl hv1
              refine lv_aload_n hx hb d_HaulFlows_mass_88 rfl (lv_at hl 0 rfl) ?_
              refine va_get (D := (dC, dI)) (ci := 4) (v := .ref (aP 0)) (C := R_HaulFlows) (T := T_HaulFlows) (N := 5) hx hb hG in_HaulFlows hown hK hP 0 rfl rfl 1 (by decide) (hG _ m_197) (fun _ h9 => h9) rfl d_HaulFlows_mass_89 ?_
              refine lv_lload_n hx hb d_HaulFlows_mass_92 rfl (lv_at hl 1 rfl) ?_
              refine lv_iconst (v := nI 0) hx hb d_HaulFlows_mass_93 (by decide) ?_
              obtain ⟨y94, hy94, hR⟩ := hw_bind hR
              have hM := c_Plan_amountAcross l dC dI cI cJ cZ H.size aP VP0 VP1 VP2 NP0 LP0 LP1 LP2 LP3 LP4 IP0 IP1 aS VS0 VS1 VS2 NS0 NS1 NS2 LS0 LS1 LS2 LS3 LS4 LS5 LS6 LS7 LS8 IS0 aY VY0 LY0 LY1 LY2 IY0 x1 (nI 0) (by first | assumption | omega) (by first | assumption | omega) (by first | assumption | omega) (by first | assumption | omega) (by first | assumption | omega)
              rw [hy94] at hM
              refine hw_callVl (As := [.long x1, .int (nI 0)]) (rest := []) (wr := w_H cI cJ cZ aH VH0 aS aP aQ aT ++ w_P cI cJ cZ aQ VQ0 VQ1 VQ2 NQ0 LQ0 LQ1 LQ2 LQ3 LQ4 IQ0 IQ1 aS ++ w_T cI cJ cZ aT VT0 NT0 NT1 LT0 IT0 aS) ⟨hx, hb, hml, hown, hG⟩ hM (hw_cwV 2 hG m_442 m_443 m_444 m_5 m_445 rfl rfl (by decide +kernel) ⟨Nat.le_of_ble_eq_true rfl, Nat.le_of_ble_eq_true rfl⟩) hK hP hD hS hA [20, 21, 22, 23, 24, 25, 26, 27, 28, 1, 2, 3, 4, 5, 6, 7, 8, 9, 10, 11, 12, 13, 14, 15, 16, 17, 18, 19] [0, 29, 30, 31, 32, 33, 34, 35, 36, 37, 38, 39, 40, 41, 42] rfl rfl (by decide) (by decide) (by decide) (hw_recv hK hP 20 rfl rfl) rfl hl.1 rfl (Nat.le_of_ble_eq_true rfl) d_HaulFlows_mass_94 ⟨Nat.le_of_ble_eq_true rfl, Nat.le_of_ble_eq_true rfl⟩ (fun H locs hP hD hS => ?_)
              have hP : va_P (dC, dI) vwCl (w_H cI cJ cZ aH VH0 aS aP aQ aT ++ w_S cI cJ cZ aS VS0 VS1 VS2 NS0 NS1 NS2 LS0 LS1 LS2 LS3 LS4 LS5 LS6 LS7 LS8 IS0 aY ++ w_Y cI cJ cZ aY VY0 LY0 LY1 LY2 IY0 ++ w_P cI cJ cZ aP VP0 VP1 VP2 NP0 LP0 LP1 LP2 LP3 LP4 IP0 IP1 aS ++ w_P cI cJ cZ aQ VQ0 VQ1 VQ2 NQ0 LQ0 LQ1 LQ2 LQ3 LQ4 IQ0 IQ1 aS ++ w_T cI cJ cZ aT VT0 NT0 NT1 LT0 IT0 aS) H := hP.sub [0, 24, 25, 26, 27, 28, 29, 30, 31, 32, 33, 34, 35, 36, 37, 38, 39, 40, 41, 42, 15, 16, 17, 18, 19, 20, 21, 22, 23, 1, 2, 3, 4, 5, 6, 7, 8, 9, 10, 11, 12, 13, 14] rfl
              have hD : va_D A (w_H cI cJ cZ aH VH0 aS aP aQ aT ++ w_S cI cJ cZ aS VS0 VS1 VS2 NS0 NS1 NS2 LS0 LS1 LS2 LS3 LS4 LS5 LS6 LS7 LS8 IS0 aY ++ w_Y cI cJ cZ aY VY0 LY0 LY1 LY2 IY0 ++ w_P cI cJ cZ aP VP0 VP1 VP2 NP0 LP0 LP1 LP2 LP3 LP4 IP0 IP1 aS ++ w_P cI cJ cZ aQ VQ0 VQ1 VQ2 NQ0 LQ0 LQ1 LQ2 LQ3 LQ4 IQ0 IQ1 aS ++ w_T cI cJ cZ aT VT0 NT0 NT1 LT0 IT0 aS) := hD.sub [0, 24, 25, 26, 27, 28, 29, 30, 31, 32, 33, 34, 35, 36, 37, 38, 39, 40, 41, 42, 15, 16, 17, 18, 19, 20, 21, 22, 23, 1, 2, 3, 4, 5, 6, 7, 8, 9, 10, 11, 12, 13, 14] (by decide) rfl
              subst hR
              exact W.lret (v := y94) hx hb hr (fun t ht hW => ⟨⟨_, (), rfl, rfl, by rw [ht]; exact hP, va_K.moved hW.alike hK, hD⟩, hS.F ht⟩) hS.2.2 d_HaulFlows_mass_97
      · replace hR := (if_neg c17).symm.trans hR
        refine lv_aload_n hx hb d_HaulFlows_mass_20 rfl (lv_at hl 0 rfl) ?_
        refine va_get (D := (dC, dI)) (ci := 4) (v := .int (nI VH0)) (C := R_HaulFlows) (T := T_HaulFlows) (N := 5) hx hb hG in_HaulFlows hown hK hP 0 rfl rfl 4 (by decide) (hG _ m_200) (fun _ h9 => h9) rfl d_HaulFlows_mass_21 ?_
        refine lv_iconst (v := nI 1) hx hb d_HaulFlows_mass_24 (by decide) ?_
        refine hw_icmp_eq (tgt := 32) hx hb d_HaulFlows_mass_25 (by decide) (by omega) (by omega) (fun c25 => ?_) (fun c25 => ?_)
        · replace hR := (if_pos c25).symm.trans hR
          refine lv_iload_n hx hb d_HaulFlows_mass_32 rfl (lv_at hl 2 rfl) ?_
          by_cases c33_0 : x3 = nI 0
          · replace hR := (if_pos c33_0).symm.trans hR
            refine lv_tableIn (off := 27) (tgt := 60) hx hb d_HaulFlows_mass_33 (by rw [c33_0]; decide) (by rw [c33_0]; decide) (by rw [c33_0]; rfl) (by decide) ?_
            refine lv_aload_n hx hb d_HaulFlows_mass_60 rfl (lv_at hl 0 rfl) ?_
            refine va_get (D := (dC, dI)) (ci := 4) (v := .ref (aS 0)) (C := R_HaulFlows) (T := T_HaulFlows) (N := 5) hx hb hG in_HaulFlows hown hK hP 0 rfl rfl 0 (by decide) (hG _ m_196) (fun _ h9 => h9) rfl d_HaulFlows_mass_61 ?_
            refine lv_lload_n hx hb d_HaulFlows_mass_64 rfl (lv_at hl 1 rfl) ?_
            obtain ⟨y65, hy65, hR⟩ := hw_bind hR
            have hM := c_Site_givenUpTo l dC dI cI cJ cZ H.size aS VS0 VS1 VS2 NS0 NS1 NS2 LS0 LS1 LS2 LS3 LS4 LS5 LS6 LS7 LS8 IS0 aY VY0 LY0 LY1 LY2 IY0 x1 (by first | assumption | omega) (by first | assumption | omega)
            rw [hy65] at hM
            refine hw_callVl (As := [.long x1]) (rest := []) (wr := w_H cI cJ cZ aH VH0 aS aP aQ aT ++ w_P cI cJ cZ aP VP0 VP1 VP2 NP0 LP0 LP1 LP2 LP3 LP4 IP0 IP1 aS ++ w_P cI cJ cZ aQ VQ0 VQ1 VQ2 NQ0 LQ0 LQ1 LQ2 LQ3 LQ4 IQ0 IQ1 aS ++ w_T cI cJ cZ aT VT0 NT0 NT1 LT0 IT0 aS) ⟨hx, hb, hml, hown, hG⟩ hM (hw_cwV 1 hG m_434 m_435 m_436 m_2 m_437 rfl rfl (by decide +kernel) ⟨Nat.le_of_ble_eq_true rfl, Nat.le_of_ble_eq_true rfl⟩) hK hP hD hS hA [1, 2, 3, 4, 5, 6, 7, 8, 9, 10, 11, 12, 13, 14, 15, 16, 17, 18, 19] [0, 20, 21, 22, 23, 24, 25, 26, 27, 28, 29, 30, 31, 32, 33, 34, 35, 36, 37, 38, 39, 40, 41, 42] rfl rfl (by decide) (by decide) (by decide) (hw_recv hK hP 1 rfl rfl) rfl hl.1 rfl (Nat.le_of_ble_eq_true rfl) d_HaulFlows_mass_65 ⟨Nat.le_of_ble_eq_true rfl, Nat.le_of_ble_eq_true rfl⟩ (fun H locs hP hD hS => ?_)
            have hP : va_P (dC, dI) vwCl (w_H cI cJ cZ aH VH0 aS aP aQ aT ++ w_S cI cJ cZ aS VS0 VS1 VS2 NS0 NS1 NS2 LS0 LS1 LS2 LS3 LS4 LS5 LS6 LS7 LS8 IS0 aY ++ w_Y cI cJ cZ aY VY0 LY0 LY1 LY2 IY0 ++ w_P cI cJ cZ aP VP0 VP1 VP2 NP0 LP0 LP1 LP2 LP3 LP4 IP0 IP1 aS ++ w_P cI cJ cZ aQ VQ0 VQ1 VQ2 NQ0 LQ0 LQ1 LQ2 LQ3 LQ4 IQ0 IQ1 aS ++ w_T cI cJ cZ aT VT0 NT0 NT1 LT0 IT0 aS) H := hP.sub [0, 24, 25, 26, 27, 28, 29, 30, 31, 32, 33, 34, 35, 36, 37, 38, 39, 40, 41, 42, 1, 2, 3, 4, 5, 6, 7, 8, 9, 10, 11, 12, 13, 14, 15, 16, 17, 18, 19, 20, 21, 22, 23] rfl
            have hD : va_D A (w_H cI cJ cZ aH VH0 aS aP aQ aT ++ w_S cI cJ cZ aS VS0 VS1 VS2 NS0 NS1 NS2 LS0 LS1 LS2 LS3 LS4 LS5 LS6 LS7 LS8 IS0 aY ++ w_Y cI cJ cZ aY VY0 LY0 LY1 LY2 IY0 ++ w_P cI cJ cZ aP VP0 VP1 VP2 NP0 LP0 LP1 LP2 LP3 LP4 IP0 IP1 aS ++ w_P cI cJ cZ aQ VQ0 VQ1 VQ2 NQ0 LQ0 LQ1 LQ2 LQ3 LQ4 IQ0 IQ1 aS ++ w_T cI cJ cZ aT VT0 NT0 NT1 LT0 IT0 aS) := hD.sub [0, 24, 25, 26, 27, 28, 29, 30, 31, 32, 33, 34, 35, 36, 37, 38, 39, 40, 41, 42, 1, 2, 3, 4, 5, 6, 7, 8, 9, 10, 11, 12, 13, 14, 15, 16, 17, 18, 19, 20, 21, 22, 23] (by decide) rfl
            subst hR
            exact W.lret (v := y65) hx hb hr (fun t ht hW => ⟨⟨_, (), rfl, rfl, by rw [ht]; exact hP, va_K.moved hW.alike hK, hD⟩, hS.F ht⟩) hS.2.2 d_HaulFlows_mass_68
          · replace hR := (if_neg c33_0).symm.trans hR
            by_cases c33_1 : x3 = nI 1
            · replace hR := (if_pos c33_1).symm.trans hR
              refine lv_tableIn (off := 36) (tgt := 69) hx hb d_HaulFlows_mass_33 (by rw [c33_1]; decide) (by rw [c33_1]; decide) (by rw [c33_1]; rfl) (by decide) ?_
              refine lv_aload_n hx hb d_HaulFlows_mass_69 rfl (lv_at hl 0 rfl) ?_
              refine va_get (D := (dC, dI)) (ci := 4) (v := .ref (aS 0)) (C := R_HaulFlows) (T := T_HaulFlows) (N := 5) hx hb hG in_HaulFlows hown hK hP 0 rfl rfl 0 (by decide) (hG _ m_196) (fun _ h9 => h9) rfl d_HaulFlows_mass_70 ?_
              refine lv_lload_n hx hb d_HaulFlows_mass_73 rfl (lv_at hl 1 rfl) ?_
              obtain ⟨y74, hy74, hR⟩ := hw_bind hR
              have hM := c_Site_wantedUpTo l dC dI cI cJ cZ H.size aS VS0 VS1 VS2 NS0 NS1 NS2 LS0 LS1 LS2 LS3 LS4 LS5 LS6 LS7 LS8 IS0 aY VY0 LY0 LY1 LY2 IY0 x1 (by first | assumption | omega)
              rw [hy74] at hM
              refine hw_callVl (As := [.long x1]) (rest := []) (wr := w_H cI cJ cZ aH VH0 aS aP aQ aT ++ w_P cI cJ cZ aP VP0 VP1 VP2 NP0 LP0 LP1 LP2 LP3 LP4 IP0 IP1 aS ++ w_P cI cJ cZ aQ VQ0 VQ1 VQ2 NQ0 LQ0 LQ1 LQ2 LQ3 LQ4 IQ0 IQ1 aS ++ w_T cI cJ cZ aT VT0 NT0 NT1 LT0 IT0 aS) ⟨hx, hb, hml, hown, hG⟩ hM (hw_cwV 1 hG m_438 m_439 m_440 m_2 m_441 rfl rfl (by decide +kernel) ⟨Nat.le_of_ble_eq_true rfl, Nat.le_of_ble_eq_true rfl⟩) hK hP hD hS hA [1, 2, 3, 4, 5, 6, 7, 8, 9, 10, 11, 12, 13, 14, 15, 16, 17, 18, 19] [0, 20, 21, 22, 23, 24, 25, 26, 27, 28, 29, 30, 31, 32, 33, 34, 35, 36, 37, 38, 39, 40, 41, 42] rfl rfl (by decide) (by decide) (by decide) (hw_recv hK hP 1 rfl rfl) rfl hl.1 rfl (Nat.le_of_ble_eq_true rfl) d_HaulFlows_mass_74 ⟨Nat.le_of_ble_eq_true rfl, Nat.le_of_ble_eq_true rfl⟩ (fun H locs hP hD hS => ?_)
              have hP : va_P (dC, dI) vwCl (w_H cI cJ cZ aH VH0 aS aP aQ aT ++ w_S cI cJ cZ aS VS0 VS1 VS2 NS0 NS1 NS2 LS0 LS1 LS2 LS3 LS4 LS5 LS6 LS7 LS8 IS0 aY ++ w_Y cI cJ cZ aY VY0 LY0 LY1 LY2 IY0 ++ w_P cI cJ cZ aP VP0 VP1 VP2 NP0 LP0 LP1 LP2 LP3 LP4 IP0 IP1 aS ++ w_P cI cJ cZ aQ VQ0 VQ1 VQ2 NQ0 LQ0 LQ1 LQ2 LQ3 LQ4 IQ0 IQ1 aS ++ w_T cI cJ cZ aT VT0 NT0 NT1 LT0 IT0 aS) H := hP.sub [0, 24, 25, 26, 27, 28, 29, 30, 31, 32, 33, 34, 35, 36, 37, 38, 39, 40, 41, 42, 1, 2, 3, 4, 5, 6, 7, 8, 9, 10, 11, 12, 13, 14, 15, 16, 17, 18, 19, 20, 21, 22, 23] rfl
              have hD : va_D A (w_H cI cJ cZ aH VH0 aS aP aQ aT ++ w_S cI cJ cZ aS VS0 VS1 VS2 NS0 NS1 NS2 LS0 LS1 LS2 LS3 LS4 LS5 LS6 LS7 LS8 IS0 aY ++ w_Y cI cJ cZ aY VY0 LY0 LY1 LY2 IY0 ++ w_P cI cJ cZ aP VP0 VP1 VP2 NP0 LP0 LP1 LP2 LP3 LP4 IP0 IP1 aS ++ w_P cI cJ cZ aQ VQ0 VQ1 VQ2 NQ0 LQ0 LQ1 LQ2 LQ3 LQ4 IQ0 IQ1 aS ++ w_T cI cJ cZ aT VT0 NT0 NT1 LT0 IT0 aS) := hD.sub [0, 24, 25, 26, 27, 28, 29, 30, 31, 32, 33, 34, 35, 36, 37, 38, 39, 40, 41, 42, 1, 2, 3, 4, 5, 6, 7, 8, 9, 10, 11, 12, 13, 14, 15, 16, 17, 18, 19, 20, 21, 22, 23] (by decide) rfl
              subst hR
              exact W.lret (v := y74) hx hb hr (fun t ht hW => ⟨⟨_, (), rfl, rfl, by rw [ht]; exact hP, va_K.moved hW.alike hK, hD⟩, hS.F ht⟩) hS.2.2 d_HaulFlows_mass_77
            · replace hR := (if_neg c33_1).symm.trans hR
              by_cases c33_2 : x3 = nI 2
              · replace hR := (if_pos c33_2).symm.trans hR
                refine lv_tableIn (off := 45) (tgt := 78) hx hb d_HaulFlows_mass_33 (by rw [c33_2]; decide) (by rw [c33_2]; decide) (by rw [c33_2]; rfl) (by decide) ?_
                have hv1 : VH0 = 1 := by first | assumption | exact absurd c17 (by rw [c33_2]; decide)
                obtain ⟨hpl0, hpl1⟩ := hpl hv1
                refine lv_aload_n hx hb d_HaulFlows_mass_78 rfl (lv_at hl 0 rfl) ?_
                refine va_get (D := (dC, dI)) (ci := 4) (v := .ref (aP 0)) (C := R_HaulFlows) (T := T_HaulFlows) (N := 5) hx hb hG in_HaulFlows hown hK hP 0 rfl rfl 1 (by decide) (hG _ m_197) (fun _ h9 => h9) rfl d_HaulFlows_mass_79 ?_
                refine lv_lload_n hx hb d_HaulFlows_mass_82 rfl (lv_at hl 1 rfl) ?_
                refine lv_iconst (v := nI 1) hx hb d_HaulFlows_mass_83 (by decide) ?_
                obtain ⟨y84, hy84, hR⟩ := hw_bind hR
                have hM := c_Plan_amountAcross l dC dI cI cJ cZ H.size aP VP0 VP1 VP2 NP0 LP0 LP1 LP2 LP3 LP4 IP0 IP1 aS VS0 VS1 VS2 NS0 NS1 NS2 LS0 LS1 LS2 LS3 LS4 LS5 LS6 LS7 LS8 IS0 aY VY0 LY0 LY1 LY2 IY0 x1 (nI 1) (by first | assumption | omega) (by first | assumption | omega) (by first | assumption | omega) (by first | assumption | omega) (by first | assumption | omega)
                rw [hy84] at hM
                refine hw_callVl (As := [.long x1, .int (nI 1)]) (rest := []) (wr := w_H cI cJ cZ aH VH0 aS aP aQ aT ++ w_P cI cJ cZ aQ VQ0 VQ1 VQ2 NQ0 LQ0 LQ1 LQ2 LQ3 LQ4 IQ0 IQ1 aS ++ w_T cI cJ cZ aT VT0 NT0 NT1 LT0 IT0 aS) ⟨hx, hb, hml, hown, hG⟩ hM (hw_cwV 2 hG m_442 m_443 m_444 m_5 m_445 rfl rfl (by decide +kernel) ⟨Nat.le_of_ble_eq_true rfl, Nat.le_of_ble_eq_true rfl⟩) hK hP hD hS hA [20, 21, 22, 23, 24, 25, 26, 27, 28, 1, 2, 3, 4, 5, 6, 7, 8, 9, 10, 11, 12, 13, 14, 15, 16, 17, 18, 19] [0, 29, 30, 31, 32, 33, 34, 35, 36, 37, 38, 39, 40, 41, 42] rfl rfl (by decide) (by decide) (by decide) (hw_recv hK hP 20 rfl rfl) rfl hl.1 rfl (Nat.le_of_ble_eq_true rfl) d_HaulFlows_mass_84 ⟨Nat.le_of_ble_eq_true rfl, Nat.le_of_ble_eq_true rfl⟩ (fun H locs hP hD hS => ?_)
                have hP : va_P (dC, dI) vwCl (w_H cI cJ cZ aH VH0 aS aP aQ aT ++ w_S cI cJ cZ aS VS0 VS1 VS2 NS0 NS1 NS2 LS0 LS1 LS2 LS3 LS4 LS5 LS6 LS7 LS8 IS0 aY ++ w_Y cI cJ cZ aY VY0 LY0 LY1 LY2 IY0 ++ w_P cI cJ cZ aP VP0 VP1 VP2 NP0 LP0 LP1 LP2 LP3 LP4 IP0 IP1 aS ++ w_P cI cJ cZ aQ VQ0 VQ1 VQ2 NQ0 LQ0 LQ1 LQ2 LQ3 LQ4 IQ0 IQ1 aS ++ w_T cI cJ cZ aT VT0 NT0 NT1 LT0 IT0 aS) H := hP.sub [0, 24, 25, 26, 27, 28, 29, 30, 31, 32, 33, 34, 35, 36, 37, 38, 39, 40, 41, 42, 15, 16, 17, 18, 19, 20, 21, 22, 23, 1, 2, 3, 4, 5, 6, 7, 8, 9, 10, 11, 12, 13, 14] rfl
                have hD : va_D A (w_H cI cJ cZ aH VH0 aS aP aQ aT ++ w_S cI cJ cZ aS VS0 VS1 VS2 NS0 NS1 NS2 LS0 LS1 LS2 LS3 LS4 LS5 LS6 LS7 LS8 IS0 aY ++ w_Y cI cJ cZ aY VY0 LY0 LY1 LY2 IY0 ++ w_P cI cJ cZ aP VP0 VP1 VP2 NP0 LP0 LP1 LP2 LP3 LP4 IP0 IP1 aS ++ w_P cI cJ cZ aQ VQ0 VQ1 VQ2 NQ0 LQ0 LQ1 LQ2 LQ3 LQ4 IQ0 IQ1 aS ++ w_T cI cJ cZ aT VT0 NT0 NT1 LT0 IT0 aS) := hD.sub [0, 24, 25, 26, 27, 28, 29, 30, 31, 32, 33, 34, 35, 36, 37, 38, 39, 40, 41, 42, 15, 16, 17, 18, 19, 20, 21, 22, 23, 1, 2, 3, 4, 5, 6, 7, 8, 9, 10, 11, 12, 13, 14] (by decide) rfl
                subst hR
                exact W.lret (v := y84) hx hb hr (fun t ht hW => ⟨⟨_, (), rfl, rfl, by rw [ht]; exact hP, va_K.moved hW.alike hK, hD⟩, hS.F ht⟩) hS.2.2 d_HaulFlows_mass_87
              · replace hR := (if_neg c33_2).symm.trans hR
                refine lv_tableOut (tgt := 88) hx hb d_HaulFlows_mass_33 (by have h0 := hw_ti 0 (by decide) c33_0; have h1 := hw_ti 1 (by decide) c33_1; have h2 := hw_ti 2 (by decide) c33_2; omega) (by decide) ?_
                have hv1 : VH0 = 1 := by first | assumption | exact absurd (hw_lt2 (hbl9 c12).1 c17) (fun q => q.elim c33_0 c33_1)
                obtain ⟨hpl0, hpl1⟩ := hpl hv1
                refine lv_aload_n hx hb d_HaulFlows_mass_88 rfl (lv_at hl 0 rfl) ?_
                refine va_get (D := (dC, dI)) (ci := 4) (v := .ref (aP 0)) (C := R_HaulFlows) (T := T_HaulFlows) (N := 5) hx hb hG in_HaulFlows hown hK hP 0 rfl rfl 1 (by decide) (hG _ m_197) (fun _ h9 => h9) rfl d_HaulFlows_mass_89 ?_
                refine lv_lload_n hx hb d_HaulFlows_mass_92 rfl (lv_at hl 1 rfl) ?_
                refine lv_iconst (v := nI 0) hx hb d_HaulFlows_mass_93 (by decide) ?_
                obtain ⟨y94, hy94, hR⟩ := hw_bind hR
                have hM := c_Plan_amountAcross l dC dI cI cJ cZ H.size aP VP0 VP1 VP2 NP0 LP0 LP1 LP2 LP3 LP4 IP0 IP1 aS VS0 VS1 VS2 NS0 NS1 NS2 LS0 LS1 LS2 LS3 LS4 LS5 LS6 LS7 LS8 IS0 aY VY0 LY0 LY1 LY2 IY0 x1 (nI 0) (by first | assumption | omega) (by first | assumption | omega) (by first | assumption | omega) (by first | assumption | omega) (by first | assumption | omega)
                rw [hy94] at hM
                refine hw_callVl (As := [.long x1, .int (nI 0)]) (rest := []) (wr := w_H cI cJ cZ aH VH0 aS aP aQ aT ++ w_P cI cJ cZ aQ VQ0 VQ1 VQ2 NQ0 LQ0 LQ1 LQ2 LQ3 LQ4 IQ0 IQ1 aS ++ w_T cI cJ cZ aT VT0 NT0 NT1 LT0 IT0 aS) ⟨hx, hb, hml, hown, hG⟩ hM (hw_cwV 2 hG m_442 m_443 m_444 m_5 m_445 rfl rfl (by decide +kernel) ⟨Nat.le_of_ble_eq_true rfl, Nat.le_of_ble_eq_true rfl⟩) hK hP hD hS hA [20, 21, 22, 23, 24, 25, 26, 27, 28, 1, 2, 3, 4, 5, 6, 7, 8, 9, 10, 11, 12, 13, 14, 15, 16, 17, 18, 19] [0, 29, 30, 31, 32, 33, 34, 35, 36, 37, 38, 39, 40, 41, 42] rfl rfl (by decide) (by decide) (by decide) (hw_recv hK hP 20 rfl rfl) rfl hl.1 rfl (Nat.le_of_ble_eq_true rfl) d_HaulFlows_mass_94 ⟨Nat.le_of_ble_eq_true rfl, Nat.le_of_ble_eq_true rfl⟩ (fun H locs hP hD hS => ?_)
                have hP : va_P (dC, dI) vwCl (w_H cI cJ cZ aH VH0 aS aP aQ aT ++ w_S cI cJ cZ aS VS0 VS1 VS2 NS0 NS1 NS2 LS0 LS1 LS2 LS3 LS4 LS5 LS6 LS7 LS8 IS0 aY ++ w_Y cI cJ cZ aY VY0 LY0 LY1 LY2 IY0 ++ w_P cI cJ cZ aP VP0 VP1 VP2 NP0 LP0 LP1 LP2 LP3 LP4 IP0 IP1 aS ++ w_P cI cJ cZ aQ VQ0 VQ1 VQ2 NQ0 LQ0 LQ1 LQ2 LQ3 LQ4 IQ0 IQ1 aS ++ w_T cI cJ cZ aT VT0 NT0 NT1 LT0 IT0 aS) H := hP.sub [0, 24, 25, 26, 27, 28, 29, 30, 31, 32, 33, 34, 35, 36, 37, 38, 39, 40, 41, 42, 15, 16, 17, 18, 19, 20, 21, 22, 23, 1, 2, 3, 4, 5, 6, 7, 8, 9, 10, 11, 12, 13, 14] rfl
                have hD : va_D A (w_H cI cJ cZ aH VH0 aS aP aQ aT ++ w_S cI cJ cZ aS VS0 VS1 VS2 NS0 NS1 NS2 LS0 LS1 LS2 LS3 LS4 LS5 LS6 LS7 LS8 IS0 aY ++ w_Y cI cJ cZ aY VY0 LY0 LY1 LY2 IY0 ++ w_P cI cJ cZ aP VP0 VP1 VP2 NP0 LP0 LP1 LP2 LP3 LP4 IP0 IP1 aS ++ w_P cI cJ cZ aQ VQ0 VQ1 VQ2 NQ0 LQ0 LQ1 LQ2 LQ3 LQ4 IQ0 IQ1 aS ++ w_T cI cJ cZ aT VT0 NT0 NT1 LT0 IT0 aS) := hD.sub [0, 24, 25, 26, 27, 28, 29, 30, 31, 32, 33, 34, 35, 36, 37, 38, 39, 40, 41, 42, 15, 16, 17, 18, 19, 20, 21, 22, 23, 1, 2, 3, 4, 5, 6, 7, 8, 9, 10, 11, 12, 13, 14] (by decide) rfl
                subst hR
                exact W.lret (v := y94) hx hb hr (fun t ht hW => ⟨⟨_, (), rfl, rfl, by rw [ht]; exact hP, va_K.moved hW.alike hK, hD⟩, hS.F ht⟩) hS.2.2 d_HaulFlows_mass_97
        · replace hR := (if_neg c25).symm.trans hR
          refine lv_ldc2 (v := (-1)) hx hb hown (hG _ m_295) d_HaulFlows_mass_28 ?_
          subst hR
          exact W.lret (v := (-1)) hx hb hr (fun t ht hW => ⟨⟨_, (), rfl, rfl, by rw [ht]; exact hP, va_K.moved hW.alike hK, hD⟩, hS.F ht⟩) hS.2.2 d_HaulFlows_mass_31
