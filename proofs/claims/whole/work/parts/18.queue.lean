abbrev b_Plan_enqueueColumns : ByteArray := prog_2_method_25_code
def y_Plan_enqueueColumns : MethodName := ⟨R_Plan, "enqueueColumns", "(I)V"⟩
def u_Plan_enqueueColumns : List Cond := Cond.code y_Plan_enqueueColumns b_Plan_enqueueColumns 3 none :: wG
theorem d_Plan_enqueueColumns_0 : decode b_Plan_enqueueColumns 0 = .ok (.iconst 0, 1) := by decide +kernel
theorem d_Plan_enqueueColumns_1 : decode b_Plan_enqueueColumns 1 = .ok (.istore_n 2, 1) := by decide +kernel
theorem d_Plan_enqueueColumns_2 : decode b_Plan_enqueueColumns 2 = .ok (.iload_n 2, 1) := by decide +kernel
theorem d_Plan_enqueueColumns_3 : decode b_Plan_enqueueColumns 3 = .ok (.bipush 9, 2) := by decide +kernel
theorem d_Plan_enqueueColumns_5 : decode b_Plan_enqueueColumns 5 = .ok (.if_icmp .ge 27, 3) := by decide +kernel
theorem d_Plan_enqueueColumns_8 : decode b_Plan_enqueueColumns 8 = .ok (.aload_n 0, 1) := by decide +kernel
theorem d_Plan_enqueueColumns_9 : decode b_Plan_enqueueColumns 9 = .ok (.iload_n 1, 1) := by decide +kernel
theorem d_Plan_enqueueColumns_10 : decode b_Plan_enqueueColumns 10 = .ok (.iload_n 2, 1) := by decide +kernel
theorem d_Plan_enqueueColumns_11 : decode b_Plan_enqueueColumns 11 = .ok (.invokevirtual 149, 3) := by decide +kernel
theorem d_Plan_enqueueColumns_14 : decode b_Plan_enqueueColumns 14 = .ok (.ifCond .eq 12, 3) := by decide +kernel
theorem d_Plan_enqueueColumns_17 : decode b_Plan_enqueueColumns 17 = .ok (.aload_n 0, 1) := by decide +kernel
theorem d_Plan_enqueueColumns_18 : decode b_Plan_enqueueColumns 18 = .ok (.bipush 12, 2) := by decide +kernel
theorem d_Plan_enqueueColumns_20 : decode b_Plan_enqueueColumns 20 = .ok (.iload_n 2, 1) := by decide +kernel
theorem d_Plan_enqueueColumns_21 : decode b_Plan_enqueueColumns 21 = .ok (.iadd, 1) := by decide +kernel
theorem d_Plan_enqueueColumns_22 : decode b_Plan_enqueueColumns 22 = .ok (.iload_n 1, 1) := by decide +kernel
theorem d_Plan_enqueueColumns_23 : decode b_Plan_enqueueColumns 23 = .ok (.invokevirtual 170, 3) := by decide +kernel
theorem d_Plan_enqueueColumns_26 : decode b_Plan_enqueueColumns 26 = .ok (.iinc 2 1, 3) := by decide +kernel
theorem d_Plan_enqueueColumns_29 : decode b_Plan_enqueueColumns 29 = .ok (.goto (-27), 3) := by decide +kernel
theorem d_Plan_enqueueColumns_32 : decode b_Plan_enqueueColumns 32 = .ok (.return_, 1) := by decide +kernel
abbrev b_Plan_enqueueGivers : ByteArray := prog_2_method_26_code
def y_Plan_enqueueGivers : MethodName := ⟨R_Plan, "enqueueGivers", "(II)V"⟩
def u_Plan_enqueueGivers : List Cond := Cond.code y_Plan_enqueueGivers b_Plan_enqueueGivers 4 none :: wG
theorem d_Plan_enqueueGivers_0 : decode b_Plan_enqueueGivers 0 = .ok (.iload_n 2, 1) := by decide +kernel
theorem d_Plan_enqueueGivers_1 : decode b_Plan_enqueueGivers 1 = .ok (.istore_n 3, 1) := by decide +kernel
theorem d_Plan_enqueueGivers_2 : decode b_Plan_enqueueGivers 2 = .ok (.iload_n 3, 1) := by decide +kernel
theorem d_Plan_enqueueGivers_3 : decode b_Plan_enqueueGivers 3 = .ok (.aload_n 0, 1) := by decide +kernel
theorem d_Plan_enqueueGivers_4 : decode b_Plan_enqueueGivers 4 = .ok (.getfield 44, 3) := by decide +kernel
theorem d_Plan_enqueueGivers_7 : decode b_Plan_enqueueGivers 7 = .ok (.if_icmp .ge 34, 3) := by decide +kernel
theorem d_Plan_enqueueGivers_10 : decode b_Plan_enqueueGivers 10 = .ok (.aload_n 0, 1) := by decide +kernel
theorem d_Plan_enqueueGivers_11 : decode b_Plan_enqueueGivers 11 = .ok (.getfield 17, 3) := by decide +kernel
theorem d_Plan_enqueueGivers_14 : decode b_Plan_enqueueGivers 14 = .ok (.iload_n 3, 1) := by decide +kernel
theorem d_Plan_enqueueGivers_15 : decode b_Plan_enqueueGivers 15 = .ok (.bipush 9, 2) := by decide +kernel
theorem d_Plan_enqueueGivers_17 : decode b_Plan_enqueueGivers 17 = .ok (.imul, 1) := by decide +kernel
theorem d_Plan_enqueueGivers_18 : decode b_Plan_enqueueGivers 18 = .ok (.iload_n 1, 1) := by decide +kernel
theorem d_Plan_enqueueGivers_19 : decode b_Plan_enqueueGivers 19 = .ok (.iadd, 1) := by decide +kernel
theorem d_Plan_enqueueGivers_20 : decode b_Plan_enqueueGivers 20 = .ok (.laload, 1) := by decide +kernel
theorem d_Plan_enqueueGivers_21 : decode b_Plan_enqueueGivers 21 = .ok (.lconst 0, 1) := by decide +kernel
theorem d_Plan_enqueueGivers_22 : decode b_Plan_enqueueGivers 22 = .ok (.lcmp, 1) := by decide +kernel
theorem d_Plan_enqueueGivers_23 : decode b_Plan_enqueueGivers 23 = .ok (.ifCond .le 12, 3) := by decide +kernel
theorem d_Plan_enqueueGivers_26 : decode b_Plan_enqueueGivers 26 = .ok (.aload_n 0, 1) := by decide +kernel
theorem d_Plan_enqueueGivers_27 : decode b_Plan_enqueueGivers 27 = .ok (.iload_n 3, 1) := by decide +kernel
theorem d_Plan_enqueueGivers_28 : decode b_Plan_enqueueGivers 28 = .ok (.bipush 12, 2) := by decide +kernel
theorem d_Plan_enqueueGivers_30 : decode b_Plan_enqueueGivers 30 = .ok (.iload_n 1, 1) := by decide +kernel
theorem d_Plan_enqueueGivers_31 : decode b_Plan_enqueueGivers 31 = .ok (.iadd, 1) := by decide +kernel
theorem d_Plan_enqueueGivers_32 : decode b_Plan_enqueueGivers 32 = .ok (.invokevirtual 170, 3) := by decide +kernel
theorem d_Plan_enqueueGivers_35 : decode b_Plan_enqueueGivers 35 = .ok (.iinc 3 1, 3) := by decide +kernel
theorem d_Plan_enqueueGivers_38 : decode b_Plan_enqueueGivers 38 = .ok (.goto (-36), 3) := by decide +kernel
theorem d_Plan_enqueueGivers_41 : decode b_Plan_enqueueGivers 41 = .ok (.return_, 1) := by decide +kernel
theorem f_Plan_enqueue_le {VP2 : Nat} (NP0 : Nat → Nat) (IP1 : Nat → Int32) (x1 x2 : Nat) (h : VP2 ≤ 21) : (f_Plan_enqueue VP2 NP0 IP1 x1 x2).1 ≤ 21 := by
  unfold f_Plan_enqueue
  by_cases c1 : IP1 x1 = -1
  · rw [if_pos c1]
    by_cases c2 : 21 ≤ VP2
    · rw [if_pos c2]
      exact h
    · rw [if_neg c2]
      show VP2 + 1 ≤ 21
      omega
  · rw [if_neg c1]
    exact h
def f_Plan_enqueueColumns_h2B (LP0 : Nat → Int64) (LP2 : Nat → Int64) (LP3 : Nat → Int64) (x1 : Nat) (k_2 : (Nat) → (Nat) → (Nat → Nat) → (Nat → Int32) → (Nat) × (Nat → Nat) × (Nat → Int32)) (rec_2 : (Nat) → (Nat) → (Nat → Nat) → (Nat → Int32) → (Nat) × (Nat → Nat) × (Nat → Int32)) (x2_2 : Nat) (VP2_2 : Nat) (NP0_2 : Nat → Nat) (IP1_2 : Nat → Int32) : (Nat) × (Nat → Nat) × (Nat → Int32) :=
  if 9 ≤ x2_2 then (k_2 x2_2 VP2_2 NP0_2 IP1_2) else (hh_bind (f_Plan_isFree LP0 LP2 LP3 x1 x2_2) (fun y11 => if y11 = 0 then (rec_2 (x2_2 + 1) VP2_2 NP0_2 IP1_2) else (hh_bind (f_Plan_enqueue VP2_2 NP0_2 IP1_2 (12 + x2_2) x1) (fun y23 => rec_2 (x2_2 + 1) y23.1 y23.2.1 y23.2.2))))
def f_Plan_enqueueColumns_h2 (LP0 : Nat → Int64) (LP2 : Nat → Int64) (LP3 : Nat → Int64) (x1 : Nat) (k_2 : (Nat) → (Nat) → (Nat → Nat) → (Nat → Int32) → (Nat) × (Nat → Nat) × (Nat → Int32)) : Nat → (Nat) → (Nat) → (Nat → Nat) → (Nat → Int32) → (Nat) × (Nat → Nat) × (Nat → Int32)
  | 0, x2_2, VP2_2, NP0_2, IP1_2 => k_2 x2_2 VP2_2 NP0_2 IP1_2
  | n + 1, x2_2, VP2_2, NP0_2, IP1_2 => f_Plan_enqueueColumns_h2B LP0 LP2 LP3 x1 k_2 (fun x2_2 VP2_2 NP0_2 IP1_2 => f_Plan_enqueueColumns_h2 LP0 LP2 LP3 x1 k_2 n x2_2 VP2_2 NP0_2 IP1_2) x2_2 VP2_2 NP0_2 IP1_2
def f_Plan_enqueueColumns_x2  (x2_2 : Nat) (VP2_2 : Nat) (NP0_2 : Nat → Nat) (IP1_2 : Nat → Int32) : (Nat) × (Nat → Nat) × (Nat → Int32) :=
  (VP2_2, NP0_2, IP1_2)
def f_Plan_enqueueColumns (VP2 : Nat) (NP0 : Nat → Nat) (LP0 : Nat → Int64) (LP2 : Nat → Int64) (LP3 : Nat → Int64) (IP1 : Nat → Int32) (x1 : Nat) : (Nat) × (Nat → Nat) × (Nat → Int32) :=
  f_Plan_enqueueColumns_h2 LP0 LP2 LP3 x1 f_Plan_enqueueColumns_x2 10 0 VP2 NP0 IP1
set_option maxHeartbeats 4000000 in
set_option maxRecDepth 100000 in
theorem c_Plan_enqueueColumns (l : Launch) (dC : Nat → ClassId) (dI : Nat → Nat → Nat) (cI cJ cZ : ClassId) (sz : Nat) (aP : Nat → Nat) (VP0 : Nat) (VP1 : Nat) (VP2 : Nat) (NP0 : Nat → Nat) (LP0 : Nat → Int64) (LP1 : Nat → Int64) (LP2 : Nat → Int64) (LP3 : Nat → Int64) (LP4 : Nat → Int64) (IP0 : Nat → Int32) (IP1 : Nat → Int32) (aS : Nat → Nat) (VS0 : Nat) (VS1 : Nat) (VS2 : Nat) (NS0 : Nat → Nat) (NS1 : Nat → Nat) (NS2 : Nat → Nat) (LS0 : Nat → Int64) (LS1 : Nat → Int64) (LS2 : Nat → Int64) (LS3 : Nat → Int64) (LS4 : Nat → Int64) (LS5 : Nat → Int64) (LS6 : Nat → Int64) (LS7 : Nat → Int64) (LS8 : Nat → Int64) (IS0 : Nat → Int32) (aY : Nat → Nat) (VY0 : Nat) (LY0 : Nat → Int64) (LY1 : Nat → Int64) (LY2 : Nat → Int64) (IY0 : Nat → Int32) (x1 : Nat) (hq2 : VP2 ≤ 21) (hx1 : x1 < 12) : hh_Cv l y_Plan_enqueueColumns u_Plan_enqueueColumns ({ frames := 1, cells := 0, slots := 0, locals := 24 }) (dC, dI) vwCl [(cI, .int), (cJ, .long), (cZ, .boolean)] (w_P cI cJ cZ aP VP0 VP1 VP2 NP0 LP0 LP1 LP2 LP3 LP4 IP0 IP1 aS ++ w_S cI cJ cZ aS VS0 VS1 VS2 NS0 NS1 NS2 LS0 LS1 LS2 LS3 LS4 LS5 LS6 LS7 LS8 IS0 aY ++ w_Y cI cJ cZ aY VY0 LY0 LY1 LY2 IY0) sz [.ref (aP 0), .int (nI x1)] (w_P cI cJ cZ aP VP0 VP1 ((f_Plan_enqueueColumns VP2 NP0 LP0 LP2 LP3 IP1 x1).1) ((f_Plan_enqueueColumns VP2 NP0 LP0 LP2 LP3 IP1 x1).2.1) LP0 LP1 LP2 LP3 LP4 IP0 ((f_Plan_enqueueColumns VP2 NP0 LP0 LP2 LP3 IP1 x1).2.2) aS ++ w_S cI cJ cZ aS VS0 VS1 VS2 NS0 NS1 NS2 LS0 LS1 LS2 LS3 LS4 LS5 LS6 LS7 LS8 IS0 aY ++ w_Y cI cJ cZ aY VY0 LY0 LY1 LY2 IY0) 0 0 := by
  unfold hh_Cv
  refine Met.ofW (cc := b_Plan_enqueueColumns) (maxL := 3) (ret := none) (by decide) rfl ?_
  intro p e s m args below meth c s₁ B hml hv
  obtain ⟨rfl, hsz, hP, hK, hD0⟩ := hv
  have hx := B.exec
  have hb := B.bytes
  have hr := B.returns
  have hts := atoms_spec (ws := u_Plan_enqueueColumns) B.pre
  have hG : ∀ w ∈ wG, w.before ([.ref (aP 0), .int (nI x1)]).toArray s = true := fun w h => hts w (List.mem_cons_of_mem _ h)
  have hown : s.vm.findClass R_Plan = some m.cls := findClass_of_methodNamed B.named
  have hlocks := B.notSynchronized
  subst hsz
  have hD := hD0.self (sz := s.heap.size)
  generalize hAe : va_A (w_P cI cJ cZ aP VP0 VP1 VP2 NP0 LP0 LP1 LP2 LP3 LP4 IP0 IP1 aS ++ w_S cI cJ cZ aS VS0 VS1 VS2 NS0 NS1 NS2 LS0 LS1 LS2 LS3 LS4 LS5 LS6 LS7 LS8 IS0 aY ++ w_Y cI cJ cZ aY VY0 LY0 LY1 LY2 IY0) s.heap.size = A at hD ⊢
  have hA : ∀ q : Nat, s.heap.size ≤ q → A q := fun q h => by rw [← hAe]; exact Or.inr h
  have hS : va_S A s.heap s.heap [] := va_S.rf
  have hl := lv_entry ([.ref (aP 0), .int (nI x1)]) (n := 3) (Nat.le_of_ble_eq_true rfl)
  rw [lg_entry_eq]
  generalize (lg_sl ([.ref (aP 0), .int (nI x1)]) ++ List.replicate (3 - (lg_sl ([.ref (aP 0), .int (nI x1)])).length) Slot.unset).toArray = ls at hl ⊢
  have hl : lv_has ls 3 [(0, .ref (aP 0)), (1, .int (nI x1))] := hl
  generalize hR : f_Plan_enqueueColumns VP2 NP0 LP0 LP2 LP3 IP1 x1 = r0
  obtain ⟨H, locs, hHe, hle⟩ : ∃ (H : Heap) (locs : List Loc), s.heap = H ∧ [] = locs := ⟨_, _, rfl, rfl⟩
  have hP : va_P (dC, dI) vwCl (w_P cI cJ cZ aP VP0 VP1 VP2 NP0 LP0 LP1 LP2 LP3 LP4 IP0 IP1 aS ++ w_S cI cJ cZ aS VS0 VS1 VS2 NS0 NS1 NS2 LS0 LS1 LS2 LS3 LS4 LS5 LS6 LS7 LS8 IS0 aY ++ w_Y cI cJ cZ aY VY0 LY0 LY1 LY2 IY0) H := by rw [← hHe]; exact hP
  have hS : va_S A s.heap H locs := by rw [← hHe, ← hle]; exact hS
  refine hw_start hHe hle ?_
  unfold f_Plan_enqueueColumns at hR
  refine lv_iconst (v := nI 0) hx hb d_Plan_enqueueColumns_0 (by decide) ?_
  refine lv_istore_n (lv' := [(2, .int (nI 0)), (0, .ref (aP 0)), (1, .int (nI x1))]) hx hb d_Plan_enqueueColumns_1 rfl hl (by decide) rfl (fun ls hl => ?_)
  obtain ⟨k_2, hk_2, hR⟩ : ∃ k, f_Plan_enqueueColumns_x2 = k ∧ f_Plan_enqueueColumns_h2 LP0 LP2 LP3 x1 k 10 0 VP2 NP0 IP1 = r0 := ⟨_, rfl, hR⟩
  have X_2 : ∀ (x2_2 : Nat) (VP2_2 : Nat) (NP0_2 : Nat → Nat) (IP1_2 : Nat → Int32) (hi : x2_2 ≤ 9) (hq2 : VP2_2 ≤ 21) (H : Heap) (locs : List Loc) (hP : va_P (dC, dI) vwCl (w_P cI cJ cZ aP VP0 VP1 VP2_2 NP0_2 LP0 LP1 LP2 LP3 LP4 IP0 IP1_2 aS ++ w_S cI cJ cZ aS VS0 VS1 VS2 NS0 NS1 NS2 LS0 LS1 LS2 LS3 LS4 LS5 LS6 LS7 LS8 IS0 aY ++ w_Y cI cJ cZ aY VY0 LY0 LY1 LY2 IY0) H) (hD : va_D A (w_P cI cJ cZ aP VP0 VP1 VP2_2 NP0_2 LP0 LP1 LP2 LP3 LP4 IP0 IP1_2 aS ++ w_S cI cJ cZ aS VS0 VS1 VS2 NS0 NS1 NS2 LS0 LS1 LS2 LS3 LS4 LS5 LS6 LS7 LS8 IS0 aY ++ w_Y cI cJ cZ aY VY0 LY0 LY1 LY2 IY0)) (hS : va_S A s.heap H locs) (ls : Array Slot) (hl : lv_has ls 3 [(0, .ref (aP 0)), (1, .int (nI x1)), (2, .int (nI x2_2))]) (hR : k_2 x2_2 VP2_2 NP0_2 IP1_2 = r0), W p l e (headSpec u_Plan_enqueueColumns ({ frames := 1, cells := 0, slots := 0, locals := 24 })).room s m ([.ref (aP 0), .int (nI x1)]).toArray below meth c H locs 0 0 (hh_Zv below (dC, dI) vwCl [(cI, .int), (cJ, .long), (cZ, .boolean)] A (w_P cI cJ cZ aP VP0 VP1 r0.1 r0.2.1 LP0 LP1 LP2 LP3 LP4 IP0 r0.2.2 aS ++ w_S cI cJ cZ aS VS0 VS1 VS2 NS0 NS1 NS2 LS0 LS1 LS2 LS3 LS4 LS5 LS6 LS7 LS8 IS0 aY ++ w_Y cI cJ cZ aY VY0 LY0 LY1 LY2 IY0) ([.ref (aP 0), .int (nI x1)]).toArray s) (F0 m 32 ls []) := by
    intro x2_2 VP2_2 NP0_2 IP1_2 hi hq2 H locs hP hD hS ls hl hR
    rw [← hk_2] at hR
    unfold f_Plan_enqueueColumns_x2 at hR
    subst hR
    exact W.vret hx hb hr (fun t ht hW => ⟨⟨(), rfl, trivial, by rw [ht]; exact hP, va_K.moved hW.alike hK, hD⟩, hS.F ht⟩) hS.2.2 d_Plan_enqueueColumns_32
  have L_2 : ∀ (n : Nat) (x2_2 : Nat) (VP2_2 : Nat) (NP0_2 : Nat → Nat) (IP1_2 : Nat → Int32) (hi : x2_2 ≤ 9) (hq2 : VP2_2 ≤ 21) (hfu : 9 - x2_2 < n) (H : Heap) (locs : List Loc) (hP : va_P (dC, dI) vwCl (w_P cI cJ cZ aP VP0 VP1 VP2_2 NP0_2 LP0 LP1 LP2 LP3 LP4 IP0 IP1_2 aS ++ w_S cI cJ cZ aS VS0 VS1 VS2 NS0 NS1 NS2 LS0 LS1 LS2 LS3 LS4 LS5 LS6 LS7 LS8 IS0 aY ++ w_Y cI cJ cZ aY VY0 LY0 LY1 LY2 IY0) H) (hD : va_D A (w_P cI cJ cZ aP VP0 VP1 VP2_2 NP0_2 LP0 LP1 LP2 LP3 LP4 IP0 IP1_2 aS ++ w_S cI cJ cZ aS VS0 VS1 VS2 NS0 NS1 NS2 LS0 LS1 LS2 LS3 LS4 LS5 LS6 LS7 LS8 IS0 aY ++ w_Y cI cJ cZ aY VY0 LY0 LY1 LY2 IY0)) (hS : va_S A s.heap H locs) (ls : Array Slot) (hl : lv_has ls 3 [(0, .ref (aP 0)), (1, .int (nI x1)), (2, .int (nI x2_2))]) (hR : f_Plan_enqueueColumns_h2 LP0 LP2 LP3 x1 k_2 n x2_2 VP2_2 NP0_2 IP1_2 = r0), W p l e (headSpec u_Plan_enqueueColumns ({ frames := 1, cells := 0, slots := 0, locals := 24 })).room s m ([.ref (aP 0), .int (nI x1)]).toArray below meth c H locs 0 0 (hh_Zv below (dC, dI) vwCl [(cI, .int), (cJ, .long), (cZ, .boolean)] A (w_P cI cJ cZ aP VP0 VP1 r0.1 r0.2.1 LP0 LP1 LP2 LP3 LP4 IP0 r0.2.2 aS ++ w_S cI cJ cZ aS VS0 VS1 VS2 NS0 NS1 NS2 LS0 LS1 LS2 LS3 LS4 LS5 LS6 LS7 LS8 IS0 aY ++ w_Y cI cJ cZ aY VY0 LY0 LY1 LY2 IY0) ([.ref (aP 0), .int (nI x1)]).toArray s) (F0 m 2 ls []) := by
    intro n
    induction n with
    | zero =>
      intro x2_2 VP2_2 NP0_2 IP1_2 hi hq2 hfu H locs hP hD hS ls hl hR
      exact absurd hfu (Nat.not_lt_zero _)
    | succ n ih_2 =>
      intro x2_2 VP2_2 NP0_2 IP1_2 hi hq2 hfu H locs hP hD hS ls hl hR
      rw [f_Plan_enqueueColumns_h2] at hR
      obtain ⟨rec_2, hrec_2, hR⟩ : ∃ r, r = _ ∧ f_Plan_enqueueColumns_h2B LP0 LP2 LP3 x1 k_2 r x2_2 VP2_2 NP0_2 IP1_2 = r0 := ⟨_, rfl, hR⟩
      unfold f_Plan_enqueueColumns_h2B at hR
      refine lv_iload_n hx hb d_Plan_enqueueColumns_2 rfl (lv_at hl 2 rfl) ?_
      refine lv_bipush (v := nI 9) hx hb d_Plan_enqueueColumns_3 (by decide) ?_
      refine hw_icmp_ge (tgt := 32) hx hb d_Plan_enqueueColumns_5 (by decide) (by omega) (by omega) (fun c5 => ?_) (fun c5 => ?_)
      · replace hR := (if_pos c5).symm.trans hR
        exact X_2 x2_2 VP2_2 NP0_2 IP1_2 (by first | assumption | omega | exact hw_upb (by assumption) (by omega)) (by first | assumption | omega | exact hw_upb (by assumption) (by omega)) H locs hP hD hS ls (lv_sub hl [0, 1, 2] rfl) hR
      · replace hR := (if_neg c5).symm.trans hR
        refine lv_aload_n hx hb d_Plan_enqueueColumns_8 rfl (lv_at hl 0 rfl) ?_
        refine lv_iload_n hx hb d_Plan_enqueueColumns_9 rfl (lv_at hl 1 rfl) ?_
        refine lv_iload_n hx hb d_Plan_enqueueColumns_10 rfl (lv_at hl 2 rfl) ?_
        obtain ⟨y11, hy11, hR⟩ := hw_bind hR
        have hM := c_Plan_isFree l dC dI cI cJ cZ H.size aP VP0 VP1 VP2_2 NP0_2 LP0 LP1 LP2 LP3 LP4 IP0 IP1_2 aS VS0 VS1 VS2 NS0 NS1 NS2 LS0 LS1 LS2 LS3 LS4 LS5 LS6 LS7 LS8 IS0 aY VY0 LY0 LY1 LY2 IY0 x1 x2_2 (by first | assumption | omega) (by first | assumption | omega)
        rw [hy11] at hM
        refine hw_callVi (As := [.int (nI x1), .int (nI x2_2)]) (rest := []) (wr := ([] : va_W)) ⟨hx, hb, hml, hown, hG⟩ hM (hw_cwV 2 hG m_552 m_554 mp_11 m_5 m_555 rfl rfl (by decide +kernel) ⟨Nat.le_of_ble_eq_true rfl, Nat.le_of_ble_eq_true rfl⟩) hK hP hD hS hA [0, 1, 2, 3, 4, 5, 6, 7, 8, 9, 10, 11, 12, 13, 14, 15, 16, 17, 18, 19, 20, 21, 22, 23, 24, 25, 26, 27] [] rfl rfl (by decide) (by decide) (by decide) (hw_recv hK hP 0 rfl rfl) rfl hl.1 rfl (Nat.le_of_ble_eq_true rfl) d_Plan_enqueueColumns_11 ⟨Nat.le_of_ble_eq_true rfl, Nat.le_of_ble_eq_true rfl⟩ (fun H locs hP hD hS => ?_)
        have hP : va_P (dC, dI) vwCl (w_P cI cJ cZ aP VP0 VP1 VP2_2 NP0_2 LP0 LP1 LP2 LP3 LP4 IP0 IP1_2 aS ++ w_S cI cJ cZ aS VS0 VS1 VS2 NS0 NS1 NS2 LS0 LS1 LS2 LS3 LS4 LS5 LS6 LS7 LS8 IS0 aY ++ w_Y cI cJ cZ aY VY0 LY0 LY1 LY2 IY0) H := hP
        have hD : va_D A (w_P cI cJ cZ aP VP0 VP1 VP2_2 NP0_2 LP0 LP1 LP2 LP3 LP4 IP0 IP1_2 aS ++ w_S cI cJ cZ aS VS0 VS1 VS2 NS0 NS1 NS2 LS0 LS1 LS2 LS3 LS4 LS5 LS6 LS7 LS8 IS0 aY ++ w_Y cI cJ cZ aY VY0 LY0 LY1 LY2 IY0) := hD
        refine lv_if_eq (tgt := 26) hx hb d_Plan_enqueueColumns_14 (by decide) (fun c14 => ?_) (fun c14 => ?_)
        · replace hR := (if_pos c14).symm.trans hR
          refine lv_iinc (v := nI (x2_2 + 1)) (lv' := [(2, .int (nI (x2_2 + 1))), (0, .ref (aP 0)), (1, .int (nI x1))]) hx hb d_Plan_enqueueColumns_26 hl (k := 2) rfl (hw_inc _ 1) (by decide) rfl (fun ls hl => ?_)
          refine lv_goto (tgt := 2) hx hb d_Plan_enqueueColumns_29 (by decide) ?_
          rw [hrec_2] at hR
          exact ih_2 (x2_2 + 1) VP2_2 NP0_2 IP1_2 (by first | assumption | omega | exact hw_upb (by assumption) (by omega)) (by first | assumption | omega | exact hw_upb (by assumption) (by omega)) (by omega) H locs hP hD hS ls (lv_sub hl [1, 2, 0] rfl) hR
        · replace hR := (if_neg c14).symm.trans hR
          refine lv_aload_n hx hb d_Plan_enqueueColumns_17 rfl (lv_at hl 0 rfl) ?_
          refine lv_bipush (v := nI 12) hx hb d_Plan_enqueueColumns_18 (by decide) ?_
          refine lv_iload_n hx hb d_Plan_enqueueColumns_20 rfl (lv_at hl 2 rfl) ?_
          refine hw_iadd hx hb d_Plan_enqueueColumns_21 ?_
          refine lv_iload_n hx hb d_Plan_enqueueColumns_22 rfl (lv_at hl 1 rfl) ?_
          obtain ⟨y23, hy23, hR⟩ := hw_bind hR
          have hM := c_Plan_enqueue l dC dI cI cJ cZ H.size aP VP0 VP1 VP2_2 NP0_2 LP0 LP1 LP2 LP3 LP4 IP0 IP1_2 aS VS0 VS1 VS2 NS0 NS1 NS2 LS0 LS1 LS2 LS3 LS4 LS5 LS6 LS7 LS8 IS0 aY VY0 LY0 LY1 LY2 IY0 (12 + x2_2) x1 (by first | assumption | omega) (by first | assumption | omega) (by first | assumption | omega)
          rw [hy23] at hM
          refine hw_callVv (As := [.int (nI (12 + x2_2)), .int (nI x1)]) (rest := []) (wr := ([] : va_W)) ⟨hx, hb, hml, hown, hG⟩ hM (hw_cwV 2 hG m_567 m_569 mp_14 m_5 m_570 rfl rfl (by decide +kernel) ⟨Nat.le_of_ble_eq_true rfl, Nat.le_of_ble_eq_true rfl⟩) hK hP hD hS hA [0, 1, 2, 3, 4, 5, 6, 7, 8, 9, 10, 11, 12, 13, 14, 15, 16, 17, 18, 19, 20, 21, 22, 23, 24, 25, 26, 27] [] rfl rfl (by decide) (by decide) (by decide) (hw_recv hK hP 0 rfl rfl) rfl hl.1 rfl (Nat.le_of_ble_eq_true rfl) d_Plan_enqueueColumns_23 ⟨Nat.le_of_ble_eq_true rfl, Nat.le_of_ble_eq_true rfl⟩ (fun H locs hP hD hS => ?_)
          have hP : va_P (dC, dI) vwCl (w_P cI cJ cZ aP VP0 VP1 y23.1 y23.2.1 LP0 LP1 LP2 LP3 LP4 IP0 y23.2.2 aS ++ w_S cI cJ cZ aS VS0 VS1 VS2 NS0 NS1 NS2 LS0 LS1 LS2 LS3 LS4 LS5 LS6 LS7 LS8 IS0 aY ++ w_Y cI cJ cZ aY VY0 LY0 LY1 LY2 IY0) H := hP
          have hD : va_D A (w_P cI cJ cZ aP VP0 VP1 y23.1 y23.2.1 LP0 LP1 LP2 LP3 LP4 IP0 y23.2.2 aS ++ w_S cI cJ cZ aS VS0 VS1 VS2 NS0 NS1 NS2 LS0 LS1 LS2 LS3 LS4 LS5 LS6 LS7 LS8 IS0 aY ++ w_Y cI cJ cZ aY VY0 LY0 LY1 LY2 IY0) := hD
          have hqe23 := f_Plan_enqueue_le NP0_2 IP1_2 (12 + x2_2) x1 (show VP2_2 ≤ 21 by first | assumption | omega)
          rw [hy23] at hqe23
          refine lv_iinc (v := nI (x2_2 + 1)) (lv' := [(2, .int (nI (x2_2 + 1))), (0, .ref (aP 0)), (1, .int (nI x1))]) hx hb d_Plan_enqueueColumns_26 hl (k := 2) rfl (hw_inc _ 1) (by decide) rfl (fun ls hl => ?_)
          refine lv_goto (tgt := 2) hx hb d_Plan_enqueueColumns_29 (by decide) ?_
          rw [hrec_2] at hR
          exact ih_2 (x2_2 + 1) y23.1 y23.2.1 y23.2.2 (by first | assumption | omega | exact hw_upb (by assumption) (by omega)) (by first | assumption | omega | exact hw_upb (by assumption) (by omega)) (by omega) H locs hP hD hS ls (lv_sub hl [1, 2, 0] rfl) hR
  exact L_2 10 0 VP2 NP0 IP1 (by first | assumption | omega | exact hw_upb (by assumption) (by omega)) (by first | assumption | omega | exact hw_upb (by assumption) (by omega)) (by omega) H locs hP hD hS ls (lv_sub hl [1, 2, 0] rfl) hR
def f_Plan_enqueueGivers_h2B (VP0 : Nat) (LP1 : Nat → Int64) (x1 : Nat) (k_2 : (Nat) → (Nat) → (Nat → Nat) → (Nat → Int32) → (Nat) × (Nat → Nat) × (Nat → Int32)) (rec_2 : (Nat) → (Nat) → (Nat → Nat) → (Nat → Int32) → (Nat) × (Nat → Nat) × (Nat → Int32)) (x3_2 : Nat) (VP2_2 : Nat) (NP0_2 : Nat → Nat) (IP1_2 : Nat → Int32) : (Nat) × (Nat → Nat) × (Nat → Int32) :=
  if VP0 ≤ x3_2 then (k_2 x3_2 VP2_2 NP0_2 IP1_2) else (if (LP1 ((x3_2 * 9) + x1)) ≤ 0 then (rec_2 (x3_2 + 1) VP2_2 NP0_2 IP1_2) else (hh_bind (f_Plan_enqueue VP2_2 NP0_2 IP1_2 x3_2 (12 + x1)) (fun y32 => rec_2 (x3_2 + 1) y32.1 y32.2.1 y32.2.2)))
def f_Plan_enqueueGivers_h2 (VP0 : Nat) (LP1 : Nat → Int64) (x1 : Nat) (k_2 : (Nat) → (Nat) → (Nat → Nat) → (Nat → Int32) → (Nat) × (Nat → Nat) × (Nat → Int32)) : Nat → (Nat) → (Nat) → (Nat → Nat) → (Nat → Int32) → (Nat) × (Nat → Nat) × (Nat → Int32)
  | 0, x3_2, VP2_2, NP0_2, IP1_2 => k_2 x3_2 VP2_2 NP0_2 IP1_2
  | n + 1, x3_2, VP2_2, NP0_2, IP1_2 => f_Plan_enqueueGivers_h2B VP0 LP1 x1 k_2 (fun x3_2 VP2_2 NP0_2 IP1_2 => f_Plan_enqueueGivers_h2 VP0 LP1 x1 k_2 n x3_2 VP2_2 NP0_2 IP1_2) x3_2 VP2_2 NP0_2 IP1_2
def f_Plan_enqueueGivers_x2  (x3_2 : Nat) (VP2_2 : Nat) (NP0_2 : Nat → Nat) (IP1_2 : Nat → Int32) : (Nat) × (Nat → Nat) × (Nat → Int32) :=
  (VP2_2, NP0_2, IP1_2)
def f_Plan_enqueueGivers (VP0 : Nat) (VP2 : Nat) (NP0 : Nat → Nat) (LP1 : Nat → Int64) (IP1 : Nat → Int32) (x1 : Nat) (x2 : Nat) : (Nat) × (Nat → Nat) × (Nat → Int32) :=
  f_Plan_enqueueGivers_h2 VP0 LP1 x1 f_Plan_enqueueGivers_x2 13 x2 VP2 NP0 IP1
set_option maxHeartbeats 4000000 in
set_option maxRecDepth 100000 in
theorem c_Plan_enqueueGivers (l : Launch) (dC : Nat → ClassId) (dI : Nat → Nat → Nat) (cI cJ cZ : ClassId) (sz : Nat) (aP : Nat → Nat) (VP0 : Nat) (VP1 : Nat) (VP2 : Nat) (NP0 : Nat → Nat) (LP0 : Nat → Int64) (LP1 : Nat → Int64) (LP2 : Nat → Int64) (LP3 : Nat → Int64) (LP4 : Nat → Int64) (IP0 : Nat → Int32) (IP1 : Nat → Int32) (aS : Nat → Nat) (VS0 : Nat) (VS1 : Nat) (VS2 : Nat) (NS0 : Nat → Nat) (NS1 : Nat → Nat) (NS2 : Nat → Nat) (LS0 : Nat → Int64) (LS1 : Nat → Int64) (LS2 : Nat → Int64) (LS3 : Nat → Int64) (LS4 : Nat → Int64) (LS5 : Nat → Int64) (LS6 : Nat → Int64) (LS7 : Nat → Int64) (LS8 : Nat → Int64) (IS0 : Nat → Int32) (aY : Nat → Nat) (VY0 : Nat) (LY0 : Nat → Int64) (LY1 : Nat → Int64) (LY2 : Nat → Int64) (IY0 : Nat → Int32) (x1 : Nat) (x2 : Nat) (hs12 : VP0 ≤ 12) (hq2 : VP2 ≤ 21) (hx1 : x1 < 9) (hx2 : x2 ≤ 12) : hh_Cv l y_Plan_enqueueGivers u_Plan_enqueueGivers ({ frames := 1, cells := 0, slots := 0, locals := 22 }) (dC, dI) vwCl [(cI, .int), (cJ, .long), (cZ, .boolean)] (w_P cI cJ cZ aP VP0 VP1 VP2 NP0 LP0 LP1 LP2 LP3 LP4 IP0 IP1 aS ++ w_S cI cJ cZ aS VS0 VS1 VS2 NS0 NS1 NS2 LS0 LS1 LS2 LS3 LS4 LS5 LS6 LS7 LS8 IS0 aY ++ w_Y cI cJ cZ aY VY0 LY0 LY1 LY2 IY0) sz [.ref (aP 0), .int (nI x1), .int (nI x2)] (w_P cI cJ cZ aP VP0 VP1 ((f_Plan_enqueueGivers VP0 VP2 NP0 LP1 IP1 x1 x2).1) ((f_Plan_enqueueGivers VP0 VP2 NP0 LP1 IP1 x1 x2).2.1) LP0 LP1 LP2 LP3 LP4 IP0 ((f_Plan_enqueueGivers VP0 VP2 NP0 LP1 IP1 x1 x2).2.2) aS ++ w_S cI cJ cZ aS VS0 VS1 VS2 NS0 NS1 NS2 LS0 LS1 LS2 LS3 LS4 LS5 LS6 LS7 LS8 IS0 aY ++ w_Y cI cJ cZ aY VY0 LY0 LY1 LY2 IY0) 0 0 := by
  unfold hh_Cv
  refine Met.ofW (cc := b_Plan_enqueueGivers) (maxL := 4) (ret := none) (by decide) rfl ?_
  intro p e s m args below meth c s₁ B hml hv
  obtain ⟨rfl, hsz, hP, hK, hD0⟩ := hv
  have hx := B.exec
  have hb := B.bytes
  have hr := B.returns
  have hts := atoms_spec (ws := u_Plan_enqueueGivers) B.pre
  have hG : ∀ w ∈ wG, w.before ([.ref (aP 0), .int (nI x1), .int (nI x2)]).toArray s = true := fun w h => hts w (List.mem_cons_of_mem _ h)
  have hown : s.vm.findClass R_Plan = some m.cls := findClass_of_methodNamed B.named
  have hlocks := B.notSynchronized
  subst hsz
  have hD := hD0.self (sz := s.heap.size)
  generalize hAe : va_A (w_P cI cJ cZ aP VP0 VP1 VP2 NP0 LP0 LP1 LP2 LP3 LP4 IP0 IP1 aS ++ w_S cI cJ cZ aS VS0 VS1 VS2 NS0 NS1 NS2 LS0 LS1 LS2 LS3 LS4 LS5 LS6 LS7 LS8 IS0 aY ++ w_Y cI cJ cZ aY VY0 LY0 LY1 LY2 IY0) s.heap.size = A at hD ⊢
  have hA : ∀ q : Nat, s.heap.size ≤ q → A q := fun q h => by rw [← hAe]; exact Or.inr h
  have hS : va_S A s.heap s.heap [] := va_S.rf
  have hl := lv_entry ([.ref (aP 0), .int (nI x1), .int (nI x2)]) (n := 4) (Nat.le_of_ble_eq_true rfl)
  rw [lg_entry_eq]
  generalize (lg_sl ([.ref (aP 0), .int (nI x1), .int (nI x2)]) ++ List.replicate (4 - (lg_sl ([.ref (aP 0), .int (nI x1), .int (nI x2)])).length) Slot.unset).toArray = ls at hl ⊢
  have hl : lv_has ls 4 [(0, .ref (aP 0)), (1, .int (nI x1)), (2, .int (nI x2))] := hl
  generalize hR : f_Plan_enqueueGivers VP0 VP2 NP0 LP1 IP1 x1 x2 = r0
  obtain ⟨H, locs, hHe, hle⟩ : ∃ (H : Heap) (locs : List Loc), s.heap = H ∧ [] = locs := ⟨_, _, rfl, rfl⟩
  have hP : va_P (dC, dI) vwCl (w_P cI cJ cZ aP VP0 VP1 VP2 NP0 LP0 LP1 LP2 LP3 LP4 IP0 IP1 aS ++ w_S cI cJ cZ aS VS0 VS1 VS2 NS0 NS1 NS2 LS0 LS1 LS2 LS3 LS4 LS5 LS6 LS7 LS8 IS0 aY ++ w_Y cI cJ cZ aY VY0 LY0 LY1 LY2 IY0) H := by rw [← hHe]; exact hP
  have hS : va_S A s.heap H locs := by rw [← hHe, ← hle]; exact hS
  refine hw_start hHe hle ?_
  unfold f_Plan_enqueueGivers at hR
  refine lv_iload_n hx hb d_Plan_enqueueGivers_0 rfl (lv_at hl 2 rfl) ?_
  refine lv_istore_n (lv' := [(3, .int (nI x2)), (0, .ref (aP 0)), (1, .int (nI x1)), (2, .int (nI x2))]) hx hb d_Plan_enqueueGivers_1 rfl hl (by decide) rfl (fun ls hl => ?_)
  obtain ⟨k_2, hk_2, hR⟩ : ∃ k, f_Plan_enqueueGivers_x2 = k ∧ f_Plan_enqueueGivers_h2 VP0 LP1 x1 k 13 x2 VP2 NP0 IP1 = r0 := ⟨_, rfl, hR⟩
  have X_2 : ∀ (x3_2 : Nat) (VP2_2 : Nat) (NP0_2 : Nat → Nat) (IP1_2 : Nat → Int32) (hi : x3_2 ≤ 12) (hq2 : VP2_2 ≤ 21) (H : Heap) (locs : List Loc) (hP : va_P (dC, dI) vwCl (w_P cI cJ cZ aP VP0 VP1 VP2_2 NP0_2 LP0 LP1 LP2 LP3 LP4 IP0 IP1_2 aS ++ w_S cI cJ cZ aS VS0 VS1 VS2 NS0 NS1 NS2 LS0 LS1 LS2 LS3 LS4 LS5 LS6 LS7 LS8 IS0 aY ++ w_Y cI cJ cZ aY VY0 LY0 LY1 LY2 IY0) H) (hD : va_D A (w_P cI cJ cZ aP VP0 VP1 VP2_2 NP0_2 LP0 LP1 LP2 LP3 LP4 IP0 IP1_2 aS ++ w_S cI cJ cZ aS VS0 VS1 VS2 NS0 NS1 NS2 LS0 LS1 LS2 LS3 LS4 LS5 LS6 LS7 LS8 IS0 aY ++ w_Y cI cJ cZ aY VY0 LY0 LY1 LY2 IY0)) (hS : va_S A s.heap H locs) (ls : Array Slot) (hl : lv_has ls 4 [(0, .ref (aP 0)), (1, .int (nI x1)), (2, .int (nI x2)), (3, .int (nI x3_2))]) (hR : k_2 x3_2 VP2_2 NP0_2 IP1_2 = r0), W p l e (headSpec u_Plan_enqueueGivers ({ frames := 1, cells := 0, slots := 0, locals := 22 })).room s m ([.ref (aP 0), .int (nI x1), .int (nI x2)]).toArray below meth c H locs 0 0 (hh_Zv below (dC, dI) vwCl [(cI, .int), (cJ, .long), (cZ, .boolean)] A (w_P cI cJ cZ aP VP0 VP1 r0.1 r0.2.1 LP0 LP1 LP2 LP3 LP4 IP0 r0.2.2 aS ++ w_S cI cJ cZ aS VS0 VS1 VS2 NS0 NS1 NS2 LS0 LS1 LS2 LS3 LS4 LS5 LS6 LS7 LS8 IS0 aY ++ w_Y cI cJ cZ aY VY0 LY0 LY1 LY2 IY0) ([.ref (aP 0), .int (nI x1), .int (nI x2)]).toArray s) (F0 m 41 ls []) := by
    intro x3_2 VP2_2 NP0_2 IP1_2 hi hq2 H locs hP hD hS ls hl hR
    rw [← hk_2] at hR
    unfold f_Plan_enqueueGivers_x2 at hR
    subst hR
    exact W.vret hx hb hr (fun t ht hW => ⟨⟨(), rfl, trivial, by rw [ht]; exact hP, va_K.moved hW.alike hK, hD⟩, hS.F ht⟩) hS.2.2 d_Plan_enqueueGivers_41
  have L_2 : ∀ (n : Nat) (x3_2 : Nat) (VP2_2 : Nat) (NP0_2 : Nat → Nat) (IP1_2 : Nat → Int32) (hi : x3_2 ≤ 12) (hq2 : VP2_2 ≤ 21) (hfu : 12 - x3_2 < n) (H : Heap) (locs : List Loc) (hP : va_P (dC, dI) vwCl (w_P cI cJ cZ aP VP0 VP1 VP2_2 NP0_2 LP0 LP1 LP2 LP3 LP4 IP0 IP1_2 aS ++ w_S cI cJ cZ aS VS0 VS1 VS2 NS0 NS1 NS2 LS0 LS1 LS2 LS3 LS4 LS5 LS6 LS7 LS8 IS0 aY ++ w_Y cI cJ cZ aY VY0 LY0 LY1 LY2 IY0) H) (hD : va_D A (w_P cI cJ cZ aP VP0 VP1 VP2_2 NP0_2 LP0 LP1 LP2 LP3 LP4 IP0 IP1_2 aS ++ w_S cI cJ cZ aS VS0 VS1 VS2 NS0 NS1 NS2 LS0 LS1 LS2 LS3 LS4 LS5 LS6 LS7 LS8 IS0 aY ++ w_Y cI cJ cZ aY VY0 LY0 LY1 LY2 IY0)) (hS : va_S A s.heap H locs) (ls : Array Slot) (hl : lv_has ls 4 [(0, .ref (aP 0)), (1, .int (nI x1)), (2, .int (nI x2)), (3, .int (nI x3_2))]) (hR : f_Plan_enqueueGivers_h2 VP0 LP1 x1 k_2 n x3_2 VP2_2 NP0_2 IP1_2 = r0), W p l e (headSpec u_Plan_enqueueGivers ({ frames := 1, cells := 0, slots := 0, locals := 22 })).room s m ([.ref (aP 0), .int (nI x1), .int (nI x2)]).toArray below meth c H locs 0 0 (hh_Zv below (dC, dI) vwCl [(cI, .int), (cJ, .long), (cZ, .boolean)] A (w_P cI cJ cZ aP VP0 VP1 r0.1 r0.2.1 LP0 LP1 LP2 LP3 LP4 IP0 r0.2.2 aS ++ w_S cI cJ cZ aS VS0 VS1 VS2 NS0 NS1 NS2 LS0 LS1 LS2 LS3 LS4 LS5 LS6 LS7 LS8 IS0 aY ++ w_Y cI cJ cZ aY VY0 LY0 LY1 LY2 IY0) ([.ref (aP 0), .int (nI x1), .int (nI x2)]).toArray s) (F0 m 2 ls []) := by
    intro n
    induction n with
    | zero =>
      intro x3_2 VP2_2 NP0_2 IP1_2 hi hq2 hfu H locs hP hD hS ls hl hR
      exact absurd hfu (Nat.not_lt_zero _)
    | succ n ih_2 =>
      intro x3_2 VP2_2 NP0_2 IP1_2 hi hq2 hfu H locs hP hD hS ls hl hR
      rw [f_Plan_enqueueGivers_h2] at hR
      obtain ⟨rec_2, hrec_2, hR⟩ : ∃ r, r = _ ∧ f_Plan_enqueueGivers_h2B VP0 LP1 x1 k_2 r x3_2 VP2_2 NP0_2 IP1_2 = r0 := ⟨_, rfl, hR⟩
      unfold f_Plan_enqueueGivers_h2B at hR
      refine lv_iload_n hx hb d_Plan_enqueueGivers_2 rfl (lv_at hl 3 rfl) ?_
      refine lv_aload_n hx hb d_Plan_enqueueGivers_3 rfl (lv_at hl 0 rfl) ?_
      refine va_get (D := (dC, dI)) (ci := 0) (v := .int (nI VP0)) (C := R_Plan) (T := T_Plan) (N := 12) hx hb hG in_Plan hown hK hP 0 rfl rfl 1 (by decide) (hG _ m_132) (fun _ h9 => h9) rfl d_Plan_enqueueGivers_4 ?_
      refine hw_icmp_ge (tgt := 41) hx hb d_Plan_enqueueGivers_7 (by decide) (by omega) (by omega) (fun c7 => ?_) (fun c7 => ?_)
      · replace hR := (if_pos c7).symm.trans hR
        exact X_2 x3_2 VP2_2 NP0_2 IP1_2 (by first | assumption | omega | exact hw_upb (by assumption) (by omega)) (by first | assumption | omega | exact hw_upb (by assumption) (by omega)) H locs hP hD hS ls (lv_sub hl [0, 1, 2, 3] rfl) hR
      · replace hR := (if_neg c7).symm.trans hR
        refine lv_aload_n hx hb d_Plan_enqueueGivers_10 rfl (lv_at hl 0 rfl) ?_
        refine va_get (D := (dC, dI)) (ci := 0) (v := .ref (aP 2)) (C := R_Plan) (T := T_Plan) (N := 12) hx hb hG in_Plan hown hK hP 0 rfl rfl 4 (by decide) (hG _ m_135) (fun _ h9 => h9) rfl d_Plan_enqueueGivers_11 ?_
        refine lv_iload_n hx hb d_Plan_enqueueGivers_14 rfl (lv_at hl 3 rfl) ?_
        refine lv_bipush (v := nI 9) hx hb d_Plan_enqueueGivers_15 (by decide) ?_
        refine hw_imul hx hb d_Plan_enqueueGivers_17 ?_
        refine lv_iload_n hx hb d_Plan_enqueueGivers_18 rfl (lv_at hl 1 rfl) ?_
        refine hw_iadd hx hb d_Plan_enqueueGivers_19 ?_
        refine hw_lald (f := LP1) hx hb hK hP 2 1 rfl rfl (by decide) (by omega) d_Plan_enqueueGivers_20 ?_
        refine lv_lconst (v := 0) hx hb d_Plan_enqueueGivers_21 (by decide) ?_
        refine hw_lcmp_le (tgt := 35) hx hb d_Plan_enqueueGivers_22 d_Plan_enqueueGivers_23 (by decide) (fun c22 => ?_) (fun c22 => ?_)
        · replace hR := (if_pos c22).symm.trans hR
          refine lv_iinc (v := nI (x3_2 + 1)) (lv' := [(3, .int (nI (x3_2 + 1))), (0, .ref (aP 0)), (1, .int (nI x1)), (2, .int (nI x2))]) hx hb d_Plan_enqueueGivers_35 hl (k := 3) rfl (hw_inc _ 1) (by decide) rfl (fun ls hl => ?_)
          refine lv_goto (tgt := 2) hx hb d_Plan_enqueueGivers_38 (by decide) ?_
          rw [hrec_2] at hR
          exact ih_2 (x3_2 + 1) VP2_2 NP0_2 IP1_2 (by first | assumption | omega | exact hw_upb (by assumption) (by omega)) (by first | assumption | omega | exact hw_upb (by assumption) (by omega)) (by omega) H locs hP hD hS ls (lv_sub hl [1, 2, 3, 0] rfl) hR
        · replace hR := (if_neg c22).symm.trans hR
          refine lv_aload_n hx hb d_Plan_enqueueGivers_26 rfl (lv_at hl 0 rfl) ?_
          refine lv_iload_n hx hb d_Plan_enqueueGivers_27 rfl (lv_at hl 3 rfl) ?_
          refine lv_bipush (v := nI 12) hx hb d_Plan_enqueueGivers_28 (by decide) ?_
          refine lv_iload_n hx hb d_Plan_enqueueGivers_30 rfl (lv_at hl 1 rfl) ?_
          refine hw_iadd hx hb d_Plan_enqueueGivers_31 ?_
          obtain ⟨y32, hy32, hR⟩ := hw_bind hR
          have hM := c_Plan_enqueue l dC dI cI cJ cZ H.size aP VP0 VP1 VP2_2 NP0_2 LP0 LP1 LP2 LP3 LP4 IP0 IP1_2 aS VS0 VS1 VS2 NS0 NS1 NS2 LS0 LS1 LS2 LS3 LS4 LS5 LS6 LS7 LS8 IS0 aY VY0 LY0 LY1 LY2 IY0 x3_2 (12 + x1) (by first | assumption | omega) (by first | assumption | omega) (by first | assumption | omega)
          rw [hy32] at hM
          refine hw_callVv (As := [.int (nI x3_2), .int (nI (12 + x1))]) (rest := []) (wr := ([] : va_W)) ⟨hx, hb, hml, hown, hG⟩ hM (hw_cwV 2 hG m_567 m_569 mp_14 m_5 m_570 rfl rfl (by decide +kernel) ⟨Nat.le_of_ble_eq_true rfl, Nat.le_of_ble_eq_true rfl⟩) hK hP hD hS hA [0, 1, 2, 3, 4, 5, 6, 7, 8, 9, 10, 11, 12, 13, 14, 15, 16, 17, 18, 19, 20, 21, 22, 23, 24, 25, 26, 27] [] rfl rfl (by decide) (by decide) (by decide) (hw_recv hK hP 0 rfl rfl) rfl hl.1 rfl (Nat.le_of_ble_eq_true rfl) d_Plan_enqueueGivers_32 ⟨Nat.le_of_ble_eq_true rfl, Nat.le_of_ble_eq_true rfl⟩ (fun H locs hP hD hS => ?_)
          have hP : va_P (dC, dI) vwCl (w_P cI cJ cZ aP VP0 VP1 y32.1 y32.2.1 LP0 LP1 LP2 LP3 LP4 IP0 y32.2.2 aS ++ w_S cI cJ cZ aS VS0 VS1 VS2 NS0 NS1 NS2 LS0 LS1 LS2 LS3 LS4 LS5 LS6 LS7 LS8 IS0 aY ++ w_Y cI cJ cZ aY VY0 LY0 LY1 LY2 IY0) H := hP
          have hD : va_D A (w_P cI cJ cZ aP VP0 VP1 y32.1 y32.2.1 LP0 LP1 LP2 LP3 LP4 IP0 y32.2.2 aS ++ w_S cI cJ cZ aS VS0 VS1 VS2 NS0 NS1 NS2 LS0 LS1 LS2 LS3 LS4 LS5 LS6 LS7 LS8 IS0 aY ++ w_Y cI cJ cZ aY VY0 LY0 LY1 LY2 IY0) := hD
          have hqe32 := f_Plan_enqueue_le NP0_2 IP1_2 x3_2 (12 + x1) (show VP2_2 ≤ 21 by first | assumption | omega)
          rw [hy32] at hqe32
          refine lv_iinc (v := nI (x3_2 + 1)) (lv' := [(3, .int (nI (x3_2 + 1))), (0, .ref (aP 0)), (1, .int (nI x1)), (2, .int (nI x2))]) hx hb d_Plan_enqueueGivers_35 hl (k := 3) rfl (hw_inc _ 1) (by decide) rfl (fun ls hl => ?_)
          refine lv_goto (tgt := 2) hx hb d_Plan_enqueueGivers_38 (by decide) ?_
          rw [hrec_2] at hR
          exact ih_2 (x3_2 + 1) y32.1 y32.2.1 y32.2.2 (by first | assumption | omega | exact hw_upb (by assumption) (by omega)) (by first | assumption | omega | exact hw_upb (by assumption) (by omega)) (by omega) H locs hP hD hS ls (lv_sub hl [1, 2, 3, 0] rfl) hR
  exact L_2 13 x2 VP2 NP0 IP1 (by first | assumption | omega | exact hw_upb (by assumption) (by omega)) (by first | assumption | omega | exact hw_upb (by assumption) (by omega)) (by omega) H locs hP hD hS ls (lv_sub hl [1, 2, 3, 0] rfl) hR
theorem hp_m1 {n : Nat} (h : n < 2 ^ 31) : nI n ≠ -1 := by
  intro e
  have h1 := nI_toInt h
  rw [e] at h1
  have h2 : (-1 : Int32).toInt = -1 := by decide
  omega
/-- a queue of nodes that hang on the start by 'before' -/
def hp_bfs (st q : Nat) (qu : Nat → Nat) (bef : Nat → Int32) : Prop := q ≤ 21 ∧ (∀ i, qu i < 21) ∧ (∀ i, i < q → bef (qu i) ≠ -1) ∧ ∀ v, v < 21 → bef v ≠ -1 → v = st ∨ ∃ u, u < 21 ∧ bef v = nI u ∧ bef u ≠ -1 ∧ (v < 12 ↔ 12 ≤ u)
theorem hp_enq {st q : Nat} {qu : Nat → Nat} {bef : Nat → Int32} {node frm : Nat} (h : hp_bfs st q qu bef) (hn : node < 21) (hf : frm < 21) (hc : node = st ∨ (bef frm ≠ -1 ∧ (node < 12 ↔ 12 ≤ frm))) :
    hp_bfs st (f_Plan_enqueue q qu bef node frm).1 (f_Plan_enqueue q qu bef node frm).2.1 (f_Plan_enqueue q qu bef node frm).2.2 ∧ ∀ v, bef v ≠ -1 → (f_Plan_enqueue q qu bef node frm).2.2 v ≠ -1 := by
  obtain ⟨h1, h2, h3, h4⟩ := h
  unfold f_Plan_enqueue
  by_cases c1 : bef node = -1
  · rw [if_pos c1]
    by_cases c2 : 21 ≤ q
    · rw [if_pos c2]
      exact ⟨⟨h1, h2, h3, h4⟩, fun v hv => hv⟩
    · rw [if_neg c2]
      have hfm : nI frm ≠ -1 := hp_m1 (by omega)
      have mono : ∀ v, bef v ≠ -1 → upd bef node (nI frm) v ≠ -1 := by
        intro v hv
        by_cases e : v = node
        · subst e
          rw [pk_us]
          exact hfm
        · rw [pk_un e]
          exact hv
      refine ⟨⟨by show q + 1 ≤ 21; omega, ?_, ?_, ?_⟩, mono⟩
      · intro i
        show va_up qu q node i < 21
        by_cases e : i = q
        · subst e
          rw [va_up_self]
          exact hn
        · rw [va_up_ne _ _ e]
          exact h2 i
      · intro i hi
        show upd bef node (nI frm) (va_up qu q node i) ≠ -1
        have hi' : i < q + 1 := hi
        by_cases e : i = q
        · subst e
          rw [va_up_self, pk_us]
          exact hfm
        · rw [va_up_ne _ _ e]
          exact mono _ (h3 i (by omega))
      · intro v hv hbv
        by_cases e : v = node
        · subst e
          rcases hc with e2 | ⟨hb, hp⟩
          · exact Or.inl e2
          · refine Or.inr ⟨frm, hf, ?_, mono frm hb, hp⟩
            show upd bef v (nI frm) v = nI frm
            exact pk_us
        · have hbv' : bef v ≠ -1 := by
            have h5 : upd bef node (nI frm) v ≠ -1 := hbv
            rw [pk_un e] at h5
            exact h5
          rcases h4 v hv hbv' with e2 | ⟨u, hu, e2, hb, hp⟩
          · exact Or.inl e2
          · refine Or.inr ⟨u, hu, ?_, mono u hb, hp⟩
            show upd bef node (nI frm) v = nI u
            rw [pk_un e]
            exact e2
  · rw [if_neg c1]
    exact ⟨⟨h1, h2, h3, h4⟩, fun v hv => hv⟩
