abbrev b_Plan_search : ByteArray := prog_2_method_14_code
def y_Plan_search : MethodName := ⟨R_Plan, "search", "(I)I"⟩
def u_Plan_search : List Cond := Cond.code y_Plan_search b_Plan_search 4 (some .int) :: wG
theorem d_Plan_search_0 : decode b_Plan_search 0 = .ok (.iconst 0, 1) := by decide +kernel
theorem d_Plan_search_1 : decode b_Plan_search 1 = .ok (.istore_n 2, 1) := by decide +kernel
theorem d_Plan_search_2 : decode b_Plan_search 2 = .ok (.iload_n 2, 1) := by decide +kernel
theorem d_Plan_search_3 : decode b_Plan_search 3 = .ok (.bipush 21, 2) := by decide +kernel
theorem d_Plan_search_5 : decode b_Plan_search 5 = .ok (.if_icmp .ge 25, 3) := by decide +kernel
theorem d_Plan_search_8 : decode b_Plan_search 8 = .ok (.aload_n 0, 1) := by decide +kernel
theorem d_Plan_search_9 : decode b_Plan_search 9 = .ok (.getfield 26, 3) := by decide +kernel
theorem d_Plan_search_12 : decode b_Plan_search 12 = .ok (.iload_n 2, 1) := by decide +kernel
theorem d_Plan_search_13 : decode b_Plan_search 13 = .ok (.ldc2_w 125, 3) := by decide +kernel
theorem d_Plan_search_16 : decode b_Plan_search 16 = .ok (.lastore, 1) := by decide +kernel
theorem d_Plan_search_17 : decode b_Plan_search 17 = .ok (.aload_n 0, 1) := by decide +kernel
theorem d_Plan_search_18 : decode b_Plan_search 18 = .ok (.getfield 29, 3) := by decide +kernel
theorem d_Plan_search_21 : decode b_Plan_search 21 = .ok (.iload_n 2, 1) := by decide +kernel
theorem d_Plan_search_22 : decode b_Plan_search 22 = .ok (.iconst 0, 1) := by decide +kernel
theorem d_Plan_search_23 : decode b_Plan_search 23 = .ok (.bastore, 1) := by decide +kernel
theorem d_Plan_search_24 : decode b_Plan_search 24 = .ok (.iinc 2 1, 3) := by decide +kernel
theorem d_Plan_search_27 : decode b_Plan_search 27 = .ok (.goto (-25), 3) := by decide +kernel
theorem d_Plan_search_30 : decode b_Plan_search 30 = .ok (.aload_n 0, 1) := by decide +kernel
theorem d_Plan_search_31 : decode b_Plan_search 31 = .ok (.getfield 26, 3) := by decide +kernel
theorem d_Plan_search_34 : decode b_Plan_search 34 = .ok (.iload_n 1, 1) := by decide +kernel
theorem d_Plan_search_35 : decode b_Plan_search 35 = .ok (.lconst 0, 1) := by decide +kernel
theorem d_Plan_search_36 : decode b_Plan_search 36 = .ok (.lastore, 1) := by decide +kernel
theorem d_Plan_search_37 : decode b_Plan_search 37 = .ok (.iconst 0, 1) := by decide +kernel
theorem d_Plan_search_38 : decode b_Plan_search 38 = .ok (.istore_n 2, 1) := by decide +kernel
theorem d_Plan_search_39 : decode b_Plan_search 39 = .ok (.iload_n 2, 1) := by decide +kernel
theorem d_Plan_search_40 : decode b_Plan_search 40 = .ok (.bipush 21, 2) := by decide +kernel
theorem d_Plan_search_42 : decode b_Plan_search 42 = .ok (.if_icmp .ge 72, 3) := by decide +kernel
theorem d_Plan_search_45 : decode b_Plan_search 45 = .ok (.aload_n 0, 1) := by decide +kernel
theorem d_Plan_search_46 : decode b_Plan_search 46 = .ok (.invokevirtual 127, 3) := by decide +kernel
theorem d_Plan_search_49 : decode b_Plan_search 49 = .ok (.istore_n 3, 1) := by decide +kernel
theorem d_Plan_search_50 : decode b_Plan_search 50 = .ok (.iload_n 3, 1) := by decide +kernel
theorem d_Plan_search_51 : decode b_Plan_search 51 = .ok (.ifCond .lt 26, 3) := by decide +kernel
theorem d_Plan_search_54 : decode b_Plan_search 54 = .ok (.iload_n 3, 1) := by decide +kernel
theorem d_Plan_search_55 : decode b_Plan_search 55 = .ok (.bipush 12, 2) := by decide +kernel
theorem d_Plan_search_57 : decode b_Plan_search 57 = .ok (.if_icmp .ge 22, 3) := by decide +kernel
theorem d_Plan_search_60 : decode b_Plan_search 60 = .ok (.aload_n 0, 1) := by decide +kernel
theorem d_Plan_search_61 : decode b_Plan_search 61 = .ok (.getfield 17, 3) := by decide +kernel
theorem d_Plan_search_64 : decode b_Plan_search 64 = .ok (.iload_n 3, 1) := by decide +kernel
theorem d_Plan_search_65 : decode b_Plan_search 65 = .ok (.bipush 9, 2) := by decide +kernel
theorem d_Plan_search_67 : decode b_Plan_search 67 = .ok (.imul, 1) := by decide +kernel
theorem d_Plan_search_68 : decode b_Plan_search 68 = .ok (.bipush 8, 2) := by decide +kernel
theorem d_Plan_search_70 : decode b_Plan_search 70 = .ok (.iadd, 1) := by decide +kernel
theorem d_Plan_search_71 : decode b_Plan_search 71 = .ok (.laload, 1) := by decide +kernel
theorem d_Plan_search_72 : decode b_Plan_search 72 = .ok (.lconst 0, 1) := by decide +kernel
theorem d_Plan_search_73 : decode b_Plan_search 73 = .ok (.lcmp, 1) := by decide +kernel
theorem d_Plan_search_74 : decode b_Plan_search 74 = .ok (.ifCond .le 5, 3) := by decide +kernel
theorem d_Plan_search_77 : decode b_Plan_search 77 = .ok (.iload_n 3, 1) := by decide +kernel
theorem d_Plan_search_78 : decode b_Plan_search 78 = .ok (.ireturn, 1) := by decide +kernel
theorem d_Plan_search_79 : decode b_Plan_search 79 = .ok (.aload_n 0, 1) := by decide +kernel
theorem d_Plan_search_80 : decode b_Plan_search 80 = .ok (.getfield 29, 3) := by decide +kernel
theorem d_Plan_search_83 : decode b_Plan_search 83 = .ok (.iload_n 3, 1) := by decide +kernel
theorem d_Plan_search_84 : decode b_Plan_search 84 = .ok (.iconst 1, 1) := by decide +kernel
theorem d_Plan_search_85 : decode b_Plan_search 85 = .ok (.bastore, 1) := by decide +kernel
theorem d_Plan_search_86 : decode b_Plan_search 86 = .ok (.iload_n 3, 1) := by decide +kernel
theorem d_Plan_search_87 : decode b_Plan_search 87 = .ok (.bipush 12, 2) := by decide +kernel
theorem d_Plan_search_89 : decode b_Plan_search 89 = .ok (.if_icmp .ge 11, 3) := by decide +kernel
theorem d_Plan_search_92 : decode b_Plan_search 92 = .ok (.aload_n 0, 1) := by decide +kernel
theorem d_Plan_search_93 : decode b_Plan_search 93 = .ok (.iload_n 3, 1) := by decide +kernel
theorem d_Plan_search_94 : decode b_Plan_search 94 = .ok (.invokevirtual 130, 3) := by decide +kernel
theorem d_Plan_search_97 : decode b_Plan_search 97 = .ok (.goto 11, 3) := by decide +kernel
theorem d_Plan_search_100 : decode b_Plan_search 100 = .ok (.aload_n 0, 1) := by decide +kernel
theorem d_Plan_search_101 : decode b_Plan_search 101 = .ok (.iload_n 3, 1) := by decide +kernel
theorem d_Plan_search_102 : decode b_Plan_search 102 = .ok (.bipush 12, 2) := by decide +kernel
theorem d_Plan_search_104 : decode b_Plan_search 104 = .ok (.isub, 1) := by decide +kernel
theorem d_Plan_search_105 : decode b_Plan_search 105 = .ok (.invokevirtual 133, 3) := by decide +kernel
theorem d_Plan_search_108 : decode b_Plan_search 108 = .ok (.iinc 2 1, 3) := by decide +kernel
theorem d_Plan_search_111 : decode b_Plan_search 111 = .ok (.goto (-72), 3) := by decide +kernel
theorem d_Plan_search_114 : decode b_Plan_search 114 = .ok (.iconst (-1), 1) := by decide +kernel
theorem d_Plan_search_115 : decode b_Plan_search 115 = .ok (.ireturn, 1) := by decide +kernel
theorem hp_far (x : Int64) : x ≤ 9223372036854775807 := by
  rw [Int64.le_iff_toInt_le]
  have h := Int64.toInt_lt x
  have e : (9223372036854775807 : Int64).toInt = 9223372036854775807 := by decide
  rw [e]
  omega
theorem hp_lt_far {x y : Int64} (h : ¬ y ≤ x) : x ≠ 9223372036854775807 := by
  intro e
  subst e
  exact h (hp_far y)
theorem f_Plan_nearest_h9_in (VP1 : Nat) (IP0 : Nat → Int32) (LP4 : Nat → Int64) : ∀ (n : Nat) (x1 : Int32) (x2 : Int64) (x4 : Nat), (x1 = -1 ∨ ∃ j, j < 12 + VP1 ∧ x1 = nI j ∧ LP4 j ≠ 9223372036854775807) →
    (f_Plan_nearest_h9 VP1 IP0 LP4 f_Plan_nearest_x9 n x1 x2 x4 = -1 ∨ ∃ j, j < 12 + VP1 ∧ f_Plan_nearest_h9 VP1 IP0 LP4 f_Plan_nearest_x9 n x1 x2 x4 = nI j ∧ LP4 j ≠ 9223372036854775807) := by
  intro n
  induction n with
  | zero =>
    intro x1 x2 x4 h
    exact h
  | succ n ih =>
    intro x1 x2 x4 h
    rw [f_Plan_nearest_h9]
    unfold f_Plan_nearest_h9B
    by_cases c1 : 12 + VP1 ≤ x4
    · rw [if_pos c1]
      exact h
    · rw [if_neg c1]
      by_cases c2 : IP0 x4 = 0
      · rw [if_pos c2]
        by_cases c3 : x2 ≤ LP4 x4
        · rw [if_pos c3]
          exact ih x1 x2 (x4 + 1) h
        · rw [if_neg c3]
          exact ih (nI x4) (LP4 x4) (x4 + 1) (Or.inr ⟨x4, by omega, rfl, hp_lt_far c3⟩)
      · rw [if_neg c2]
        exact ih x1 x2 (x4 + 1) h
/-- nearest answers -1, or a node of the graph that has been reached -/
theorem f_Plan_nearest_in (VP1 : Nat) (LP4 : Nat → Int64) (IP0 : Nat → Int32) : f_Plan_nearest VP1 LP4 IP0 = -1 ∨ ∃ j, j < 12 + VP1 ∧ f_Plan_nearest VP1 LP4 IP0 = nI j ∧ LP4 j ≠ 9223372036854775807 :=
  f_Plan_nearest_h9_in VP1 IP0 LP4 21 (-1) _ 0 (Or.inl rfl)
theorem f_Plan_nearest_lt {VP1 : Nat} (LP4 : Nat → Int64) (IP0 : Nat → Int32) (h : VP1 ≤ 8) : (f_Plan_nearest VP1 LP4 IP0).toNatClampNeg < 12 + VP1 := by
  rcases f_Plan_nearest_in VP1 LP4 IP0 with e | ⟨j, hj, e, -⟩
  · rw [e]
    have : (-1 : Int32).toNatClampNeg = 0 := by decide
    omega
  · rw [e, nI_clamp (by omega)]
    exact hj
def f_Plan_search_h39B (VP1 : Nat) (VP0 : Nat) (LP0 : Nat → Int64) (LP2 : Nat → Int64) (LP3 : Nat → Int64) (LP1 : Nat → Int64) (k_39 : (Nat) → (Nat → Int64) → (Nat → Int32) → (Nat → Int32) → Int32 × (Nat → Int64) × (Nat → Int32) × (Nat → Int32)) (rec_39 : (Nat) → (Nat → Int64) → (Nat → Int32) → (Nat → Int32) → Int32 × (Nat → Int64) × (Nat → Int32) × (Nat → Int32)) (x2_39 : Nat) (LP4_39 : Nat → Int64) (IP0_39 : Nat → Int32) (IP1_39 : Nat → Int32) : Int32 × (Nat → Int64) × (Nat → Int32) × (Nat → Int32) :=
  if 21 ≤ x2_39 then (k_39 x2_39 LP4_39 IP0_39 IP1_39) else (hh_bind (f_Plan_nearest VP1 LP4_39 IP0_39) (fun y46 => if y46 < 0 then (y46, LP4_39, IP0_39, IP1_39) else (if 12 ≤ y46.toNatClampNeg then (if 12 ≤ y46.toNatClampNeg then (hh_bind (f_Plan_reachSources VP0 LP0 LP2 LP3 LP4_39 (upd IP0_39 y46.toNatClampNeg (nI 1)) IP1_39 (y46.toNatClampNeg - 12)) (fun y105 => rec_39 (x2_39 + 1) y105.1 (upd IP0_39 y46.toNatClampNeg (nI 1)) y105.2)) else (hh_bind (f_Plan_reachFills VP1 LP1 LP4_39 (upd IP0_39 y46.toNatClampNeg (nI 1)) IP1_39 y46.toNatClampNeg) (fun y94 => rec_39 (x2_39 + 1) y94.1 (upd IP0_39 y46.toNatClampNeg (nI 1)) y94.2))) else (if (LP1 ((y46.toNatClampNeg * 9) + 8)) ≤ 0 then (if 12 ≤ y46.toNatClampNeg then (hh_bind (f_Plan_reachSources VP0 LP0 LP2 LP3 LP4_39 (upd IP0_39 y46.toNatClampNeg (nI 1)) IP1_39 (y46.toNatClampNeg - 12)) (fun y105 => rec_39 (x2_39 + 1) y105.1 (upd IP0_39 y46.toNatClampNeg (nI 1)) y105.2)) else (hh_bind (f_Plan_reachFills VP1 LP1 LP4_39 (upd IP0_39 y46.toNatClampNeg (nI 1)) IP1_39 y46.toNatClampNeg) (fun y94 => rec_39 (x2_39 + 1) y94.1 (upd IP0_39 y46.toNatClampNeg (nI 1)) y94.2))) else (nI y46.toNatClampNeg, LP4_39, IP0_39, IP1_39)))))
def f_Plan_search_h39 (VP1 : Nat) (VP0 : Nat) (LP0 : Nat → Int64) (LP2 : Nat → Int64) (LP3 : Nat → Int64) (LP1 : Nat → Int64) (k_39 : (Nat) → (Nat → Int64) → (Nat → Int32) → (Nat → Int32) → Int32 × (Nat → Int64) × (Nat → Int32) × (Nat → Int32)) : Nat → (Nat) → (Nat → Int64) → (Nat → Int32) → (Nat → Int32) → Int32 × (Nat → Int64) × (Nat → Int32) × (Nat → Int32)
  | 0, x2_39, LP4_39, IP0_39, IP1_39 => k_39 x2_39 LP4_39 IP0_39 IP1_39
  | n + 1, x2_39, LP4_39, IP0_39, IP1_39 => f_Plan_search_h39B VP1 VP0 LP0 LP2 LP3 LP1 k_39 (fun x2_39 LP4_39 IP0_39 IP1_39 => f_Plan_search_h39 VP1 VP0 LP0 LP2 LP3 LP1 k_39 n x2_39 LP4_39 IP0_39 IP1_39) x2_39 LP4_39 IP0_39 IP1_39
def f_Plan_search_x39  (x2_39 : Nat) (LP4_39 : Nat → Int64) (IP0_39 : Nat → Int32) (IP1_39 : Nat → Int32) : Int32 × (Nat → Int64) × (Nat → Int32) × (Nat → Int32) :=
  ((-1), LP4_39, IP0_39, IP1_39)
def f_Plan_search_h2B  (k_2 : (Nat) → (Nat → Int64) → (Nat → Int32) → Int32 × (Nat → Int64) × (Nat → Int32) × (Nat → Int32)) (rec_2 : (Nat) → (Nat → Int64) → (Nat → Int32) → Int32 × (Nat → Int64) × (Nat → Int32) × (Nat → Int32)) (x2_2 : Nat) (LP4_2 : Nat → Int64) (IP0_2 : Nat → Int32) : Int32 × (Nat → Int64) × (Nat → Int32) × (Nat → Int32) :=
  if 21 ≤ x2_2 then (k_2 x2_2 LP4_2 IP0_2) else (rec_2 (x2_2 + 1) (vp_updL LP4_2 x2_2 9223372036854775807) (upd IP0_2 x2_2 (nI 0)))
def f_Plan_search_h2  (k_2 : (Nat) → (Nat → Int64) → (Nat → Int32) → Int32 × (Nat → Int64) × (Nat → Int32) × (Nat → Int32)) : Nat → (Nat) → (Nat → Int64) → (Nat → Int32) → Int32 × (Nat → Int64) × (Nat → Int32) × (Nat → Int32)
  | 0, x2_2, LP4_2, IP0_2 => k_2 x2_2 LP4_2 IP0_2
  | n + 1, x2_2, LP4_2, IP0_2 => f_Plan_search_h2B  k_2 (fun x2_2 LP4_2 IP0_2 => f_Plan_search_h2  k_2 n x2_2 LP4_2 IP0_2) x2_2 LP4_2 IP0_2
def f_Plan_search_x2 (VP1 : Nat) (VP0 : Nat) (LP0 : Nat → Int64) (LP2 : Nat → Int64) (LP3 : Nat → Int64) (LP1 : Nat → Int64) (x1 : Nat) (IP1 : Nat → Int32) (x2_2 : Nat) (LP4_2 : Nat → Int64) (IP0_2 : Nat → Int32) : Int32 × (Nat → Int64) × (Nat → Int32) × (Nat → Int32) :=
  f_Plan_search_h39 VP1 VP0 LP0 LP2 LP3 LP1 f_Plan_search_x39 22 0 (vp_updL LP4_2 x1 0) IP0_2 IP1
def f_Plan_search (VP0 : Nat) (VP1 : Nat) (LP0 : Nat → Int64) (LP1 : Nat → Int64) (LP2 : Nat → Int64) (LP3 : Nat → Int64) (LP4 : Nat → Int64) (IP0 : Nat → Int32) (IP1 : Nat → Int32) (x1 : Nat) : Int32 × (Nat → Int64) × (Nat → Int32) × (Nat → Int32) :=
  f_Plan_search_h2  (f_Plan_search_x2 VP1 VP0 LP0 LP2 LP3 LP1 x1 IP1) 22 0 LP4 IP0
set_option maxHeartbeats 4000000 in
set_option maxRecDepth 100000 in
theorem c_Plan_search (l : Launch) (dC : Nat → ClassId) (dI : Nat → Nat → Nat) (cI cJ cZ : ClassId) (sz : Nat) (aP : Nat → Nat) (VP0 : Nat) (VP1 : Nat) (VP2 : Nat) (NP0 : Nat → Nat) (LP0 : Nat → Int64) (LP1 : Nat → Int64) (LP2 : Nat → Int64) (LP3 : Nat → Int64) (LP4 : Nat → Int64) (IP0 : Nat → Int32) (IP1 : Nat → Int32) (aS : Nat → Nat) (VS0 : Nat) (VS1 : Nat) (VS2 : Nat) (NS0 : Nat → Nat) (NS1 : Nat → Nat) (NS2 : Nat → Nat) (LS0 : Nat → Int64) (LS1 : Nat → Int64) (LS2 : Nat → Int64) (LS3 : Nat → Int64) (LS4 : Nat → Int64) (LS5 : Nat → Int64) (LS6 : Nat → Int64) (LS7 : Nat → Int64) (LS8 : Nat → Int64) (IS0 : Nat → Int32) (aY : Nat → Nat) (VY0 : Nat) (LY0 : Nat → Int64) (LY1 : Nat → Int64) (LY2 : Nat → Int64) (IY0 : Nat → Int32) (x1 : Nat) (hs12 : VP0 ≤ 12) (hb8 : VP1 ≤ 8) (hx1 : x1 < 21) : hh_Ci l y_Plan_search u_Plan_search ({ frames := 2, cells := 0, slots := 0, locals := 50 }) (dC, dI) vwCl [(cI, .int), (cJ, .long), (cZ, .boolean)] (w_P cI cJ cZ aP VP0 VP1 VP2 NP0 LP0 LP1 LP2 LP3 LP4 IP0 IP1 aS ++ w_S cI cJ cZ aS VS0 VS1 VS2 NS0 NS1 NS2 LS0 LS1 LS2 LS3 LS4 LS5 LS6 LS7 LS8 IS0 aY ++ w_Y cI cJ cZ aY VY0 LY0 LY1 LY2 IY0) sz [.ref (aP 0), .int (nI x1)] ((f_Plan_search VP0 VP1 LP0 LP1 LP2 LP3 LP4 IP0 IP1 x1).1) (w_P cI cJ cZ aP VP0 VP1 VP2 NP0 LP0 LP1 LP2 LP3 ((f_Plan_search VP0 VP1 LP0 LP1 LP2 LP3 LP4 IP0 IP1 x1).2.1) ((f_Plan_search VP0 VP1 LP0 LP1 LP2 LP3 LP4 IP0 IP1 x1).2.2.1) ((f_Plan_search VP0 VP1 LP0 LP1 LP2 LP3 LP4 IP0 IP1 x1).2.2.2) aS ++ w_S cI cJ cZ aS VS0 VS1 VS2 NS0 NS1 NS2 LS0 LS1 LS2 LS3 LS4 LS5 LS6 LS7 LS8 IS0 aY ++ w_Y cI cJ cZ aY VY0 LY0 LY1 LY2 IY0) 0 0 := by
  unfold hh_Ci
  refine Met.ofW (cc := b_Plan_search) (maxL := 4) (ret := (some .int)) (by decide) rfl ?_
  intro p e s m args below meth c s₁ B hml hv
  obtain ⟨rfl, hsz, hP, hK, hD0⟩ := hv
  have hx := B.exec
  have hb := B.bytes
  have hr := B.returns
  have hts := atoms_spec (ws := u_Plan_search) B.pre
  have hG : ∀ w ∈ wG, w.before ([.ref (aP 0), .int (nI x1)]).toArray s = true := fun w h => hts w (List.mem_cons_of_mem _ h)
  have hown : s.vm.findClass R_Plan = some m.cls := findClass_of_methodNamed B.named
  have hlocks := B.notSynchronized
  subst hsz
  have hD := hD0.self (sz := s.heap.size)
  generalize hAe : va_A (w_P cI cJ cZ aP VP0 VP1 VP2 NP0 LP0 LP1 LP2 LP3 LP4 IP0 IP1 aS ++ w_S cI cJ cZ aS VS0 VS1 VS2 NS0 NS1 NS2 LS0 LS1 LS2 LS3 LS4 LS5 LS6 LS7 LS8 IS0 aY ++ w_Y cI cJ cZ aY VY0 LY0 LY1 LY2 IY0) s.heap.size = A at hD ⊢
  have hA : ∀ q : Nat, s.heap.size ≤ q → A q := fun q h => by rw [← hAe]; exact Or.inr h
  have hS : va_S A s.heap s.heap [] := va_S.rf
  have hl := lv_entry ([.ref (aP 0), .int (nI x1)]) (n := 4) (Nat.le_of_ble_eq_true rfl)
  rw [lg_entry_eq]
  generalize (lg_sl ([.ref (aP 0), .int (nI x1)]) ++ List.replicate (4 - (lg_sl ([.ref (aP 0), .int (nI x1)])).length) Slot.unset).toArray = ls at hl ⊢
  have hl : lv_has ls 4 [(0, .ref (aP 0)), (1, .int (nI x1))] := hl
  generalize hR : f_Plan_search VP0 VP1 LP0 LP1 LP2 LP3 LP4 IP0 IP1 x1 = r0
  obtain ⟨H, locs, hHe, hle⟩ : ∃ (H : Heap) (locs : List Loc), s.heap = H ∧ [] = locs := ⟨_, _, rfl, rfl⟩
  have hP : va_P (dC, dI) vwCl (w_P cI cJ cZ aP VP0 VP1 VP2 NP0 LP0 LP1 LP2 LP3 LP4 IP0 IP1 aS ++ w_S cI cJ cZ aS VS0 VS1 VS2 NS0 NS1 NS2 LS0 LS1 LS2 LS3 LS4 LS5 LS6 LS7 LS8 IS0 aY ++ w_Y cI cJ cZ aY VY0 LY0 LY1 LY2 IY0) H := by rw [← hHe]; exact hP
  have hS : va_S A s.heap H locs := by rw [← hHe, ← hle]; exact hS
  refine hw_start hHe hle ?_
  unfold f_Plan_search at hR
  refine lv_iconst (v := nI 0) hx hb d_Plan_search_0 (by decide) ?_
  refine lv_istore_n (lv' := [(2, .int (nI 0)), (0, .ref (aP 0)), (1, .int (nI x1))]) hx hb d_Plan_search_1 rfl hl (by decide) rfl (fun ls hl => ?_)
  obtain ⟨k_2, hk_2, hR⟩ : ∃ k, (f_Plan_search_x2 VP1 VP0 LP0 LP2 LP3 LP1 x1 IP1) = k ∧ f_Plan_search_h2  k 22 0 LP4 IP0 = r0 := ⟨_, rfl, hR⟩
  have X_2 : ∀ (x2_2 : Nat) (LP4_2 : Nat → Int64) (IP0_2 : Nat → Int32) (hi : x2_2 ≤ 21) (H : Heap) (locs : List Loc) (hP : va_P (dC, dI) vwCl (w_P cI cJ cZ aP VP0 VP1 VP2 NP0 LP0 LP1 LP2 LP3 LP4_2 IP0_2 IP1 aS ++ w_S cI cJ cZ aS VS0 VS1 VS2 NS0 NS1 NS2 LS0 LS1 LS2 LS3 LS4 LS5 LS6 LS7 LS8 IS0 aY ++ w_Y cI cJ cZ aY VY0 LY0 LY1 LY2 IY0) H) (hD : va_D A (w_P cI cJ cZ aP VP0 VP1 VP2 NP0 LP0 LP1 LP2 LP3 LP4_2 IP0_2 IP1 aS ++ w_S cI cJ cZ aS VS0 VS1 VS2 NS0 NS1 NS2 LS0 LS1 LS2 LS3 LS4 LS5 LS6 LS7 LS8 IS0 aY ++ w_Y cI cJ cZ aY VY0 LY0 LY1 LY2 IY0)) (hS : va_S A s.heap H locs) (ls : Array Slot) (hl : lv_has ls 4 [(0, .ref (aP 0)), (1, .int (nI x1)), (2, .int (nI x2_2))]) (hR : k_2 x2_2 LP4_2 IP0_2 = r0), W p l e (headSpec u_Plan_search ({ frames := 2, cells := 0, slots := 0, locals := 50 })).room s m ([.ref (aP 0), .int (nI x1)]).toArray below meth c H locs 0 0 (hh_Zi below (dC, dI) vwCl [(cI, .int), (cJ, .long), (cZ, .boolean)] A r0.1 (w_P cI cJ cZ aP VP0 VP1 VP2 NP0 LP0 LP1 LP2 LP3 r0.2.1 r0.2.2.1 r0.2.2.2 aS ++ w_S cI cJ cZ aS VS0 VS1 VS2 NS0 NS1 NS2 LS0 LS1 LS2 LS3 LS4 LS5 LS6 LS7 LS8 IS0 aY ++ w_Y cI cJ cZ aY VY0 LY0 LY1 LY2 IY0) ([.ref (aP 0), .int (nI x1)]).toArray s) (F0 m 30 ls []) := by
    intro x2_2 LP4_2 IP0_2 hi H locs hP hD hS ls hl hR
    rw [← hk_2] at hR
    unfold f_Plan_search_x2 at hR
    refine lv_aload_n hx hb d_Plan_search_30 rfl (lv_at hl 0 rfl) ?_
    refine va_get (D := (dC, dI)) (ci := 0) (v := .ref (aP 5)) (C := R_Plan) (T := T_Plan) (N := 12) hx hb hG in_Plan hown hK hP 0 rfl rfl 7 (by decide) (hG _ m_138) (fun _ h9 => h9) rfl d_Plan_search_31 ?_
    refine lv_iload_n hx hb d_Plan_search_34 rfl (lv_at hl 1 rfl) ?_
    refine lv_lconst (v := 0) hx hb d_Plan_search_35 (by decide) ?_
    refine hw_last (f := LP4_2) hx hb hK hP hD hS 5 1 rfl rfl (by decide) (by omega) d_Plan_search_36 (fun H locs hP hD hS => ?_)
    have hP : va_P (dC, dI) vwCl (w_P cI cJ cZ aP VP0 VP1 VP2 NP0 LP0 LP1 LP2 LP3 (vp_updL LP4_2 x1 0) IP0_2 IP1 aS ++ w_S cI cJ cZ aS VS0 VS1 VS2 NS0 NS1 NS2 LS0 LS1 LS2 LS3 LS4 LS5 LS6 LS7 LS8 IS0 aY ++ w_Y cI cJ cZ aY VY0 LY0 LY1 LY2 IY0) H := hP
    have hD : va_D A (w_P cI cJ cZ aP VP0 VP1 VP2 NP0 LP0 LP1 LP2 LP3 (vp_updL LP4_2 x1 0) IP0_2 IP1 aS ++ w_S cI cJ cZ aS VS0 VS1 VS2 NS0 NS1 NS2 LS0 LS1 LS2 LS3 LS4 LS5 LS6 LS7 LS8 IS0 aY ++ w_Y cI cJ cZ aY VY0 LY0 LY1 LY2 IY0) := hD
    refine lv_iconst (v := nI 0) hx hb d_Plan_search_37 (by decide) ?_
    refine lv_istore_n (lv' := [(2, .int (nI 0)), (0, .ref (aP 0)), (1, .int (nI x1))]) hx hb d_Plan_search_38 rfl hl (by decide) rfl (fun ls hl => ?_)
    obtain ⟨k_39, hk_39, hR⟩ : ∃ k, f_Plan_search_x39 = k ∧ f_Plan_search_h39 VP1 VP0 LP0 LP2 LP3 LP1 k 22 0 (vp_updL LP4_2 x1 0) IP0_2 IP1 = r0 := ⟨_, rfl, hR⟩
    have X_39 : ∀ (x2_39 : Nat) (LP4_39 : Nat → Int64) (IP0_39 : Nat → Int32) (IP1_39 : Nat → Int32) (hi : x2_39 ≤ 21) (H : Heap) (locs : List Loc) (hP : va_P (dC, dI) vwCl (w_P cI cJ cZ aP VP0 VP1 VP2 NP0 LP0 LP1 LP2 LP3 LP4_39 IP0_39 IP1_39 aS ++ w_S cI cJ cZ aS VS0 VS1 VS2 NS0 NS1 NS2 LS0 LS1 LS2 LS3 LS4 LS5 LS6 LS7 LS8 IS0 aY ++ w_Y cI cJ cZ aY VY0 LY0 LY1 LY2 IY0) H) (hD : va_D A (w_P cI cJ cZ aP VP0 VP1 VP2 NP0 LP0 LP1 LP2 LP3 LP4_39 IP0_39 IP1_39 aS ++ w_S cI cJ cZ aS VS0 VS1 VS2 NS0 NS1 NS2 LS0 LS1 LS2 LS3 LS4 LS5 LS6 LS7 LS8 IS0 aY ++ w_Y cI cJ cZ aY VY0 LY0 LY1 LY2 IY0)) (hS : va_S A s.heap H locs) (ls : Array Slot) (hl : lv_has ls 4 [(0, .ref (aP 0)), (1, .int (nI x1)), (2, .int (nI x2_39))]) (hR : k_39 x2_39 LP4_39 IP0_39 IP1_39 = r0), W p l e (headSpec u_Plan_search ({ frames := 2, cells := 0, slots := 0, locals := 50 })).room s m ([.ref (aP 0), .int (nI x1)]).toArray below meth c H locs 0 0 (hh_Zi below (dC, dI) vwCl [(cI, .int), (cJ, .long), (cZ, .boolean)] A r0.1 (w_P cI cJ cZ aP VP0 VP1 VP2 NP0 LP0 LP1 LP2 LP3 r0.2.1 r0.2.2.1 r0.2.2.2 aS ++ w_S cI cJ cZ aS VS0 VS1 VS2 NS0 NS1 NS2 LS0 LS1 LS2 LS3 LS4 LS5 LS6 LS7 LS8 IS0 aY ++ w_Y cI cJ cZ aY VY0 LY0 LY1 LY2 IY0) ([.ref (aP 0), .int (nI x1)]).toArray s) (F0 m 114 ls []) := by
      intro x2_39 LP4_39 IP0_39 IP1_39 hi H locs hP hD hS ls hl hR
      rw [← hk_39] at hR
      unfold f_Plan_search_x39 at hR
      refine lv_iconst (v := (-1)) hx hb d_Plan_search_114 (by decide) ?_
      subst hR
      exact W.iret (v := (-1)) hx hb hr (fun t ht hW => ⟨⟨_, (), rfl, rfl, by rw [ht]; exact hP, va_K.moved hW.alike hK, hD⟩, hS.F ht⟩) hS.2.2 d_Plan_search_115
    have L_39 : ∀ (n : Nat) (x2_39 : Nat) (LP4_39 : Nat → Int64) (IP0_39 : Nat → Int32) (IP1_39 : Nat → Int32) (hi : x2_39 ≤ 21) (hfu : 21 - x2_39 < n) (H : Heap) (locs : List Loc) (hP : va_P (dC, dI) vwCl (w_P cI cJ cZ aP VP0 VP1 VP2 NP0 LP0 LP1 LP2 LP3 LP4_39 IP0_39 IP1_39 aS ++ w_S cI cJ cZ aS VS0 VS1 VS2 NS0 NS1 NS2 LS0 LS1 LS2 LS3 LS4 LS5 LS6 LS7 LS8 IS0 aY ++ w_Y cI cJ cZ aY VY0 LY0 LY1 LY2 IY0) H) (hD : va_D A (w_P cI cJ cZ aP VP0 VP1 VP2 NP0 LP0 LP1 LP2 LP3 LP4_39 IP0_39 IP1_39 aS ++ w_S cI cJ cZ aS VS0 VS1 VS2 NS0 NS1 NS2 LS0 LS1 LS2 LS3 LS4 LS5 LS6 LS7 LS8 IS0 aY ++ w_Y cI cJ cZ aY VY0 LY0 LY1 LY2 IY0)) (hS : va_S A s.heap H locs) (ls : Array Slot) (hl : lv_has ls 4 [(0, .ref (aP 0)), (1, .int (nI x1)), (2, .int (nI x2_39))]) (hR : f_Plan_search_h39 VP1 VP0 LP0 LP2 LP3 LP1 k_39 n x2_39 LP4_39 IP0_39 IP1_39 = r0), W p l e (headSpec u_Plan_search ({ frames := 2, cells := 0, slots := 0, locals := 50 })).room s m ([.ref (aP 0), .int (nI x1)]).toArray below meth c H locs 0 0 (hh_Zi below (dC, dI) vwCl [(cI, .int), (cJ, .long), (cZ, .boolean)] A r0.1 (w_P cI cJ cZ aP VP0 VP1 VP2 NP0 LP0 LP1 LP2 LP3 r0.2.1 r0.2.2.1 r0.2.2.2 aS ++ w_S cI cJ cZ aS VS0 VS1 VS2 NS0 NS1 NS2 LS0 LS1 LS2 LS3 LS4 LS5 LS6 LS7 LS8 IS0 aY ++ w_Y cI cJ cZ aY VY0 LY0 LY1 LY2 IY0) ([.ref (aP 0), .int (nI x1)]).toArray s) (F0 m 39 ls []) := by
      intro n
      induction n with
      | zero =>
        intro x2_39 LP4_39 IP0_39 IP1_39 hi hfu H locs hP hD hS ls hl hR
        exact absurd hfu (Nat.not_lt_zero _)
      | succ n ih_39 =>
        intro x2_39 LP4_39 IP0_39 IP1_39 hi hfu H locs hP hD hS ls hl hR
        rw [f_Plan_search_h39] at hR
        obtain ⟨rec_39, hrec_39, hR⟩ : ∃ r, r = _ ∧ f_Plan_search_h39B VP1 VP0 LP0 LP2 LP3 LP1 k_39 r x2_39 LP4_39 IP0_39 IP1_39 = r0 := ⟨_, rfl, hR⟩
        unfold f_Plan_search_h39B at hR
        refine lv_iload_n hx hb d_Plan_search_39 rfl (lv_at hl 2 rfl) ?_
        refine lv_bipush (v := nI 21) hx hb d_Plan_search_40 (by decide) ?_
        refine hw_icmp_ge (tgt := 114) hx hb d_Plan_search_42 (by decide) (by omega) (by omega) (fun c42 => ?_) (fun c42 => ?_)
        · replace hR := (if_pos c42).symm.trans hR
          exact X_39 x2_39 LP4_39 IP0_39 IP1_39 (by first | assumption | omega | exact hw_upb (by assumption) (by omega)) H locs hP hD hS ls (lv_sub hl [0, 1, 2] rfl) hR
        · replace hR := (if_neg c42).symm.trans hR
          refine lv_aload_n hx hb d_Plan_search_45 rfl (lv_at hl 0 rfl) ?_
          obtain ⟨y46, hy46, hR⟩ := hw_bind hR
          have hM := c_Plan_nearest l dC dI cI cJ cZ H.size aP VP0 VP1 VP2 NP0 LP0 LP1 LP2 LP3 LP4_39 IP0_39 IP1_39 aS VS0 VS1 VS2 NS0 NS1 NS2 LS0 LS1 LS2 LS3 LS4 LS5 LS6 LS7 LS8 IS0 aY VY0 LY0 LY1 LY2 IY0 (by first | assumption | omega)
          rw [hy46] at hM
          refine hw_callVi (As := []) (rest := []) (wr := ([] : va_W)) ⟨hx, hb, hml, hown, hG⟩ hM (hw_cwV 0 hG m_336 m_338 mp_1 m_5 m_339 rfl rfl (by decide +kernel) ⟨Nat.le_of_ble_eq_true rfl, Nat.le_of_ble_eq_true rfl⟩) hK hP hD hS hA [0, 1, 2, 3, 4, 5, 6, 7, 8, 9, 10, 11, 12, 13, 14, 15, 16, 17, 18, 19, 20, 21, 22, 23, 24, 25, 26, 27] [] rfl rfl (by decide) (by decide) (by decide) (hw_recv hK hP 0 rfl rfl) rfl hl.1 rfl (Nat.le_of_ble_eq_true rfl) d_Plan_search_46 ⟨Nat.le_of_ble_eq_true rfl, Nat.le_of_ble_eq_true rfl⟩ (fun H locs hP hD hS => ?_)
          have hP : va_P (dC, dI) vwCl (w_P cI cJ cZ aP VP0 VP1 VP2 NP0 LP0 LP1 LP2 LP3 LP4_39 IP0_39 IP1_39 aS ++ w_S cI cJ cZ aS VS0 VS1 VS2 NS0 NS1 NS2 LS0 LS1 LS2 LS3 LS4 LS5 LS6 LS7 LS8 IS0 aY ++ w_Y cI cJ cZ aY VY0 LY0 LY1 LY2 IY0) H := hP
          have hD : va_D A (w_P cI cJ cZ aP VP0 VP1 VP2 NP0 LP0 LP1 LP2 LP3 LP4_39 IP0_39 IP1_39 aS ++ w_S cI cJ cZ aS VS0 VS1 VS2 NS0 NS1 NS2 LS0 LS1 LS2 LS3 LS4 LS5 LS6 LS7 LS8 IS0 aY ++ w_Y cI cJ cZ aY VY0 LY0 LY1 LY2 IY0) := hD
          have hlt46 := f_Plan_nearest_lt LP4_39 IP0_39 hb8
          rw [hy46] at hlt46
          refine lv_istore_n (lv' := [(3, .int y46), (0, .ref (aP 0)), (1, .int (nI x1)), (2, .int (nI x2_39))]) hx hb d_Plan_search_49 rfl hl (by decide) rfl (fun ls hl => ?_)
          refine lv_iload_n hx hb d_Plan_search_50 rfl (lv_at hl 0 rfl) ?_
          refine lv_if_lt (tgt := 77) hx hb d_Plan_search_51 (by decide) (fun c51 => ?_) (fun c51 => ?_)
          · replace hR := (if_pos c51).symm.trans hR
            refine lv_iload_n hx hb d_Plan_search_77 rfl (lv_at hl 0 rfl) ?_
            subst hR
            exact W.iret (v := y46) hx hb hr (fun t ht hW => ⟨⟨_, (), rfl, rfl, by rw [ht]; exact hP, va_K.moved hW.alike hK, hD⟩, hS.F ht⟩) hS.2.2 d_Plan_search_78
          · replace hR := (if_neg c51).symm.trans hR
            have en54_3 : nI (y46.toNatClampNeg) = y46 := hw_nat (by assumption)
            have hl : lv_has ls 4 [(3, .int (nI y46.toNatClampNeg)), (0, .ref (aP 0)), (1, .int (nI x1)), (2, .int (nI x2_39))] := by rw [en54_3]; exact hl
            refine lv_iload_n hx hb d_Plan_search_54 rfl (lv_at hl 0 rfl) ?_
            refine lv_bipush (v := nI 12) hx hb d_Plan_search_55 (by decide) ?_
            refine hw_icmp_ge (tgt := 79) hx hb d_Plan_search_57 (by decide) (by omega) (by omega) (fun c57 => ?_) (fun c57 => ?_)
            · replace hR := (if_pos c57).symm.trans hR
              refine lv_aload_n hx hb d_Plan_search_79 rfl (lv_at hl 1 rfl) ?_
              refine va_get (D := (dC, dI)) (ci := 0) (v := .ref (aP 6)) (C := R_Plan) (T := T_Plan) (N := 12) hx hb hG in_Plan hown hK hP 0 rfl rfl 8 (by decide) (hG _ m_139) (fun _ h9 => h9) rfl d_Plan_search_80 ?_
              refine lv_iload_n hx hb d_Plan_search_83 rfl (lv_at hl 0 rfl) ?_
              refine lv_iconst (v := nI 1) hx hb d_Plan_search_84 (by decide) ?_
              refine hw_zast (f := IP0_39) hx hb hK hP hD hS 6 2 rfl rfl (by decide) (by omega) (by decide) d_Plan_search_85 (fun H locs hP hD hS => ?_)
              have hP : va_P (dC, dI) vwCl (w_P cI cJ cZ aP VP0 VP1 VP2 NP0 LP0 LP1 LP2 LP3 LP4_39 (upd IP0_39 y46.toNatClampNeg (nI 1)) IP1_39 aS ++ w_S cI cJ cZ aS VS0 VS1 VS2 NS0 NS1 NS2 LS0 LS1 LS2 LS3 LS4 LS5 LS6 LS7 LS8 IS0 aY ++ w_Y cI cJ cZ aY VY0 LY0 LY1 LY2 IY0) H := hP
              have hD : va_D A (w_P cI cJ cZ aP VP0 VP1 VP2 NP0 LP0 LP1 LP2 LP3 LP4_39 (upd IP0_39 y46.toNatClampNeg (nI 1)) IP1_39 aS ++ w_S cI cJ cZ aS VS0 VS1 VS2 NS0 NS1 NS2 LS0 LS1 LS2 LS3 LS4 LS5 LS6 LS7 LS8 IS0 aY ++ w_Y cI cJ cZ aY VY0 LY0 LY1 LY2 IY0) := hD
              refine lv_iload_n hx hb d_Plan_search_86 rfl (lv_at hl 0 rfl) ?_
              refine lv_bipush (v := nI 12) hx hb d_Plan_search_87 (by decide) ?_
              refine hw_icmp_ge (tgt := 100) hx hb d_Plan_search_89 (by decide) (by omega) (by omega) (fun c89 => ?_) (fun c89 => ?_)
              · replace hR := (if_pos c89).symm.trans hR
                refine lv_aload_n hx hb d_Plan_search_100 rfl (lv_at hl 1 rfl) ?_
                refine lv_iload_n hx hb d_Plan_search_101 rfl (lv_at hl 0 rfl) ?_
                refine lv_bipush (v := nI 12) hx hb d_Plan_search_102 (by decide) ?_
                refine hw_isub hx hb d_Plan_search_104 (by omega) ?_
                obtain ⟨y105, hy105, hR⟩ := hw_bind hR
                have hM := c_Plan_reachSources l dC dI cI cJ cZ H.size aP VP0 VP1 VP2 NP0 LP0 LP1 LP2 LP3 LP4_39 (upd IP0_39 y46.toNatClampNeg (nI 1)) IP1_39 aS VS0 VS1 VS2 NS0 NS1 NS2 LS0 LS1 LS2 LS3 LS4 LS5 LS6 LS7 LS8 IS0 aY VY0 LY0 LY1 LY2 IY0 (y46.toNatClampNeg - 12) (by first | assumption | omega) (by first | assumption | omega)
                rw [hy105] at hM
                refine hw_callVv (As := [.int (nI (y46.toNatClampNeg - 12))]) (rest := []) (wr := ([] : va_W)) ⟨hx, hb, hml, hown, hG⟩ hM (hw_cwV 1 hG m_349 m_351 mp_4 m_5 m_352 rfl rfl (by decide +kernel) ⟨Nat.le_of_ble_eq_true rfl, Nat.le_of_ble_eq_true rfl⟩) hK hP hD hS hA [0, 1, 2, 3, 4, 5, 6, 7, 8, 9, 10, 11, 12, 13, 14, 15, 16, 17, 18, 19, 20, 21, 22, 23, 24, 25, 26, 27] [] rfl rfl (by decide) (by decide) (by decide) (hw_recv hK hP 0 rfl rfl) rfl hl.1 rfl (Nat.le_of_ble_eq_true rfl) d_Plan_search_105 ⟨Nat.le_of_ble_eq_true rfl, Nat.le_of_ble_eq_true rfl⟩ (fun H locs hP hD hS => ?_)
                have hP : va_P (dC, dI) vwCl (w_P cI cJ cZ aP VP0 VP1 VP2 NP0 LP0 LP1 LP2 LP3 y105.1 (upd IP0_39 y46.toNatClampNeg (nI 1)) y105.2 aS ++ w_S cI cJ cZ aS VS0 VS1 VS2 NS0 NS1 NS2 LS0 LS1 LS2 LS3 LS4 LS5 LS6 LS7 LS8 IS0 aY ++ w_Y cI cJ cZ aY VY0 LY0 LY1 LY2 IY0) H := hP
                have hD : va_D A (w_P cI cJ cZ aP VP0 VP1 VP2 NP0 LP0 LP1 LP2 LP3 y105.1 (upd IP0_39 y46.toNatClampNeg (nI 1)) y105.2 aS ++ w_S cI cJ cZ aS VS0 VS1 VS2 NS0 NS1 NS2 LS0 LS1 LS2 LS3 LS4 LS5 LS6 LS7 LS8 IS0 aY ++ w_Y cI cJ cZ aY VY0 LY0 LY1 LY2 IY0) := hD
                refine lv_iinc (v := nI (x2_39 + 1)) (lv' := [(2, .int (nI (x2_39 + 1))), (3, .int (nI y46.toNatClampNeg)), (0, .ref (aP 0)), (1, .int (nI x1))]) hx hb d_Plan_search_108 hl (k := 3) rfl (hw_inc _ 1) (by decide) rfl (fun ls hl => ?_)
                refine lv_goto (tgt := 39) hx hb d_Plan_search_111 (by decide) ?_
                rw [hrec_39] at hR
                exact ih_39 (x2_39 + 1) y105.1 (upd IP0_39 y46.toNatClampNeg (nI 1)) y105.2 (by first | assumption | omega | exact hw_upb (by assumption) (by omega)) (by omega) H locs hP hD hS ls (lv_sub hl [2, 3, 0] rfl) hR
              · replace hR := (if_neg c89).symm.trans hR
                refine lv_aload_n hx hb d_Plan_search_92 rfl (lv_at hl 1 rfl) ?_
                refine lv_iload_n hx hb d_Plan_search_93 rfl (lv_at hl 0 rfl) ?_
                obtain ⟨y94, hy94, hR⟩ := hw_bind hR
                have hM := c_Plan_reachFills l dC dI cI cJ cZ H.size aP VP0 VP1 VP2 NP0 LP0 LP1 LP2 LP3 LP4_39 (upd IP0_39 y46.toNatClampNeg (nI 1)) IP1_39 aS VS0 VS1 VS2 NS0 NS1 NS2 LS0 LS1 LS2 LS3 LS4 LS5 LS6 LS7 LS8 IS0 aY VY0 LY0 LY1 LY2 IY0 y46.toNatClampNeg (by first | assumption | omega) (by first | assumption | omega)
                rw [hy94] at hM
                refine hw_callVv (As := [.int (nI y46.toNatClampNeg)]) (rest := []) (wr := ([] : va_W)) ⟨hx, hb, hml, hown, hG⟩ hM (hw_cwV 1 hG m_340 m_342 mp_2 m_5 m_343 rfl rfl (by decide +kernel) ⟨Nat.le_of_ble_eq_true rfl, Nat.le_of_ble_eq_true rfl⟩) hK hP hD hS hA [0, 1, 2, 3, 4, 5, 6, 7, 8, 9, 10, 11, 12, 13, 14, 15, 16, 17, 18, 19, 20, 21, 22, 23, 24, 25, 26, 27] [] rfl rfl (by decide) (by decide) (by decide) (hw_recv hK hP 0 rfl rfl) rfl hl.1 rfl (Nat.le_of_ble_eq_true rfl) d_Plan_search_94 ⟨Nat.le_of_ble_eq_true rfl, Nat.le_of_ble_eq_true rfl⟩ (fun H locs hP hD hS => ?_)
                have hP : va_P (dC, dI) vwCl (w_P cI cJ cZ aP VP0 VP1 VP2 NP0 LP0 LP1 LP2 LP3 y94.1 (upd IP0_39 y46.toNatClampNeg (nI 1)) y94.2 aS ++ w_S cI cJ cZ aS VS0 VS1 VS2 NS0 NS1 NS2 LS0 LS1 LS2 LS3 LS4 LS5 LS6 LS7 LS8 IS0 aY ++ w_Y cI cJ cZ aY VY0 LY0 LY1 LY2 IY0) H := hP
                have hD : va_D A (w_P cI cJ cZ aP VP0 VP1 VP2 NP0 LP0 LP1 LP2 LP3 y94.1 (upd IP0_39 y46.toNatClampNeg (nI 1)) y94.2 aS ++ w_S cI cJ cZ aS VS0 VS1 VS2 NS0 NS1 NS2 LS0 LS1 LS2 LS3 LS4 LS5 LS6 LS7 LS8 IS0 aY ++ w_Y cI cJ cZ aY VY0 LY0 LY1 LY2 IY0) := hD
                refine lv_goto (tgt := 108) hx hb d_Plan_search_97 (by decide) ?_
                refine lv_iinc (v := nI (x2_39 + 1)) (lv' := [(2, .int (nI (x2_39 + 1))), (3, .int (nI y46.toNatClampNeg)), (0, .ref (aP 0)), (1, .int (nI x1))]) hx hb d_Plan_search_108 hl (k := 3) rfl (hw_inc _ 1) (by decide) rfl (fun ls hl => ?_)
                refine lv_goto (tgt := 39) hx hb d_Plan_search_111 (by decide) ?_
                rw [hrec_39] at hR
                exact ih_39 (x2_39 + 1) y94.1 (upd IP0_39 y46.toNatClampNeg (nI 1)) y94.2 (by first | assumption | omega | exact hw_upb (by assumption) (by omega)) (by omega) H locs hP hD hS ls (lv_sub hl [2, 3, 0] rfl) hR
            · replace hR := (if_neg c57).symm.trans hR
              refine lv_aload_n hx hb d_Plan_search_60 rfl (lv_at hl 1 rfl) ?_
              refine va_get (D := (dC, dI)) (ci := 0) (v := .ref (aP 2)) (C := R_Plan) (T := T_Plan) (N := 12) hx hb hG in_Plan hown hK hP 0 rfl rfl 4 (by decide) (hG _ m_135) (fun _ h9 => h9) rfl d_Plan_search_61 ?_
              refine lv_iload_n hx hb d_Plan_search_64 rfl (lv_at hl 0 rfl) ?_
              refine lv_bipush (v := nI 9) hx hb d_Plan_search_65 (by decide) ?_
              refine hw_imul hx hb d_Plan_search_67 ?_
              refine lv_bipush (v := nI 8) hx hb d_Plan_search_68 (by decide) ?_
              refine hw_iadd hx hb d_Plan_search_70 ?_
              refine hw_lald (f := LP1) hx hb hK hP 2 1 rfl rfl (by decide) (by omega) d_Plan_search_71 ?_
              refine lv_lconst (v := 0) hx hb d_Plan_search_72 (by decide) ?_
              refine hw_lcmp_le (tgt := 79) hx hb d_Plan_search_73 d_Plan_search_74 (by decide) (fun c73 => ?_) (fun c73 => ?_)
              · replace hR := (if_pos c73).symm.trans hR
                refine lv_aload_n hx hb d_Plan_search_79 rfl (lv_at hl 1 rfl) ?_
                refine va_get (D := (dC, dI)) (ci := 0) (v := .ref (aP 6)) (C := R_Plan) (T := T_Plan) (N := 12) hx hb hG in_Plan hown hK hP 0 rfl rfl 8 (by decide) (hG _ m_139) (fun _ h9 => h9) rfl d_Plan_search_80 ?_
                refine lv_iload_n hx hb d_Plan_search_83 rfl (lv_at hl 0 rfl) ?_
                refine lv_iconst (v := nI 1) hx hb d_Plan_search_84 (by decide) ?_
                refine hw_zast (f := IP0_39) hx hb hK hP hD hS 6 2 rfl rfl (by decide) (by omega) (by decide) d_Plan_search_85 (fun H locs hP hD hS => ?_)
                have hP : va_P (dC, dI) vwCl (w_P cI cJ cZ aP VP0 VP1 VP2 NP0 LP0 LP1 LP2 LP3 LP4_39 (upd IP0_39 y46.toNatClampNeg (nI 1)) IP1_39 aS ++ w_S cI cJ cZ aS VS0 VS1 VS2 NS0 NS1 NS2 LS0 LS1 LS2 LS3 LS4 LS5 LS6 LS7 LS8 IS0 aY ++ w_Y cI cJ cZ aY VY0 LY0 LY1 LY2 IY0) H := hP
                have hD : va_D A (w_P cI cJ cZ aP VP0 VP1 VP2 NP0 LP0 LP1 LP2 LP3 LP4_39 (upd IP0_39 y46.toNatClampNeg (nI 1)) IP1_39 aS ++ w_S cI cJ cZ aS VS0 VS1 VS2 NS0 NS1 NS2 LS0 LS1 LS2 LS3 LS4 LS5 LS6 LS7 LS8 IS0 aY ++ w_Y cI cJ cZ aY VY0 LY0 LY1 LY2 IY0) := hD
                refine lv_iload_n hx hb d_Plan_search_86 rfl (lv_at hl 0 rfl) ?_
                refine lv_bipush (v := nI 12) hx hb d_Plan_search_87 (by decide) ?_
                refine hw_icmp_ge (tgt := 100) hx hb d_Plan_search_89 (by decide) (by omega) (by omega) (fun c89 => ?_) (fun c89 => ?_)
                · replace hR := (if_pos c89).symm.trans hR
                  refine lv_aload_n hx hb d_Plan_search_100 rfl (lv_at hl 1 rfl) ?_
                  refine lv_iload_n hx hb d_Plan_search_101 rfl (lv_at hl 0 rfl) ?_
                  refine lv_bipush (v := nI 12) hx hb d_Plan_search_102 (by decide) ?_
                  refine hw_isub hx hb d_Plan_search_104 (by omega) ?_
                  obtain ⟨y105, hy105, hR⟩ := hw_bind hR
                  have hM := c_Plan_reachSources l dC dI cI cJ cZ H.size aP VP0 VP1 VP2 NP0 LP0 LP1 LP2 LP3 LP4_39 (upd IP0_39 y46.toNatClampNeg (nI 1)) IP1_39 aS VS0 VS1 VS2 NS0 NS1 NS2 LS0 LS1 LS2 LS3 LS4 LS5 LS6 LS7 LS8 IS0 aY VY0 LY0 LY1 LY2 IY0 (y46.toNatClampNeg - 12) (by first | assumption | omega) (by first | assumption | omega)
                  rw [hy105] at hM
                  refine hw_callVv (As := [.int (nI (y46.toNatClampNeg - 12))]) (rest := []) (wr := ([] : va_W)) ⟨hx, hb, hml, hown, hG⟩ hM (hw_cwV 1 hG m_349 m_351 mp_4 m_5 m_352 rfl rfl (by decide +kernel) ⟨Nat.le_of_ble_eq_true rfl, Nat.le_of_ble_eq_true rfl⟩) hK hP hD hS hA [0, 1, 2, 3, 4, 5, 6, 7, 8, 9, 10, 11, 12, 13, 14, 15, 16, 17, 18, 19, 20, 21, 22, 23, 24, 25, 26, 27] [] rfl rfl (by decide) (by decide) (by decide) (hw_recv hK hP 0 rfl rfl) rfl hl.1 rfl (Nat.le_of_ble_eq_true rfl) d_Plan_search_105 ⟨Nat.le_of_ble_eq_true rfl, Nat.le_of_ble_eq_true rfl⟩ (fun H locs hP hD hS => ?_)
                  have hP : va_P (dC, dI) vwCl (w_P cI cJ cZ aP VP0 VP1 VP2 NP0 LP0 LP1 LP2 LP3 y105.1 (upd IP0_39 y46.toNatClampNeg (nI 1)) y105.2 aS ++ w_S cI cJ cZ aS VS0 VS1 VS2 NS0 NS1 NS2 LS0 LS1 LS2 LS3 LS4 LS5 LS6 LS7 LS8 IS0 aY ++ w_Y cI cJ cZ aY VY0 LY0 LY1 LY2 IY0) H := hP
                  have hD : va_D A (w_P cI cJ cZ aP VP0 VP1 VP2 NP0 LP0 LP1 LP2 LP3 y105.1 (upd IP0_39 y46.toNatClampNeg (nI 1)) y105.2 aS ++ w_S cI cJ cZ aS VS0 VS1 VS2 NS0 NS1 NS2 LS0 LS1 LS2 LS3 LS4 LS5 LS6 LS7 LS8 IS0 aY ++ w_Y cI cJ cZ aY VY0 LY0 LY1 LY2 IY0) := hD
                  refine lv_iinc (v := nI (x2_39 + 1)) (lv' := [(2, .int (nI (x2_39 + 1))), (3, .int (nI y46.toNatClampNeg)), (0, .ref (aP 0)), (1, .int (nI x1))]) hx hb d_Plan_search_108 hl (k := 3) rfl (hw_inc _ 1) (by decide) rfl (fun ls hl => ?_)
                  refine lv_goto (tgt := 39) hx hb d_Plan_search_111 (by decide) ?_
                  rw [hrec_39] at hR
                  exact ih_39 (x2_39 + 1) y105.1 (upd IP0_39 y46.toNatClampNeg (nI 1)) y105.2 (by first | assumption | omega | exact hw_upb (by assumption) (by omega)) (by omega) H locs hP hD hS ls (lv_sub hl [2, 3, 0] rfl) hR
                · replace hR := (if_neg c89).symm.trans hR
                  refine lv_aload_n hx hb d_Plan_search_92 rfl (lv_at hl 1 rfl) ?_
                  refine lv_iload_n hx hb d_Plan_search_93 rfl (lv_at hl 0 rfl) ?_
                  obtain ⟨y94, hy94, hR⟩ := hw_bind hR
                  have hM := c_Plan_reachFills l dC dI cI cJ cZ H.size aP VP0 VP1 VP2 NP0 LP0 LP1 LP2 LP3 LP4_39 (upd IP0_39 y46.toNatClampNeg (nI 1)) IP1_39 aS VS0 VS1 VS2 NS0 NS1 NS2 LS0 LS1 LS2 LS3 LS4 LS5 LS6 LS7 LS8 IS0 aY VY0 LY0 LY1 LY2 IY0 y46.toNatClampNeg (by first | assumption | omega) (by first | assumption | omega)
                  rw [hy94] at hM
                  refine hw_callVv (As := [.int (nI y46.toNatClampNeg)]) (rest := []) (wr := ([] : va_W)) ⟨hx, hb, hml, hown, hG⟩ hM (hw_cwV 1 hG m_340 m_342 mp_2 m_5 m_343 rfl rfl (by decide +kernel) ⟨Nat.le_of_ble_eq_true rfl, Nat.le_of_ble_eq_true rfl⟩) hK hP hD hS hA [0, 1, 2, 3, 4, 5, 6, 7, 8, 9, 10, 11, 12, 13, 14, 15, 16, 17, 18, 19, 20, 21, 22, 23, 24, 25, 26, 27] [] rfl rfl (by decide) (by decide) (by decide) (hw_recv hK hP 0 rfl rfl) rfl hl.1 rfl (Nat.le_of_ble_eq_true rfl) d_Plan_search_94 ⟨Nat.le_of_ble_eq_true rfl, Nat.le_of_ble_eq_true rfl⟩ (fun H locs hP hD hS => ?_)
                  have hP : va_P (dC, dI) vwCl (w_P cI cJ cZ aP VP0 VP1 VP2 NP0 LP0 LP1 LP2 LP3 y94.1 (upd IP0_39 y46.toNatClampNeg (nI 1)) y94.2 aS ++ w_S cI cJ cZ aS VS0 VS1 VS2 NS0 NS1 NS2 LS0 LS1 LS2 LS3 LS4 LS5 LS6 LS7 LS8 IS0 aY ++ w_Y cI cJ cZ aY VY0 LY0 LY1 LY2 IY0) H := hP
                  have hD : va_D A (w_P cI cJ cZ aP VP0 VP1 VP2 NP0 LP0 LP1 LP2 LP3 y94.1 (upd IP0_39 y46.toNatClampNeg (nI 1)) y94.2 aS ++ w_S cI cJ cZ aS VS0 VS1 VS2 NS0 NS1 NS2 LS0 LS1 LS2 LS3 LS4 LS5 LS6 LS7 LS8 IS0 aY ++ w_Y cI cJ cZ aY VY0 LY0 LY1 LY2 IY0) := hD
                  refine lv_goto (tgt := 108) hx hb d_Plan_search_97 (by decide) ?_
                  refine lv_iinc (v := nI (x2_39 + 1)) (lv' := [(2, .int (nI (x2_39 + 1))), (3, .int (nI y46.toNatClampNeg)), (0, .ref (aP 0)), (1, .int (nI x1))]) hx hb d_Plan_search_108 hl (k := 3) rfl (hw_inc _ 1) (by decide) rfl (fun ls hl => ?_)
                  refine lv_goto (tgt := 39) hx hb d_Plan_search_111 (by decide) ?_
                  rw [hrec_39] at hR
                  exact ih_39 (x2_39 + 1) y94.1 (upd IP0_39 y46.toNatClampNeg (nI 1)) y94.2 (by first | assumption | omega | exact hw_upb (by assumption) (by omega)) (by omega) H locs hP hD hS ls (lv_sub hl [2, 3, 0] rfl) hR
              · replace hR := (if_neg c73).symm.trans hR
                refine lv_iload_n hx hb d_Plan_search_77 rfl (lv_at hl 0 rfl) ?_
                subst hR
                exact W.iret (v := nI y46.toNatClampNeg) hx hb hr (fun t ht hW => ⟨⟨_, (), rfl, rfl, by rw [ht]; exact hP, va_K.moved hW.alike hK, hD⟩, hS.F ht⟩) hS.2.2 d_Plan_search_78
    exact L_39 22 0 (vp_updL LP4_2 x1 0) IP0_2 IP1 (by first | assumption | omega | exact hw_upb (by assumption) (by omega)) (by omega) H locs hP hD hS ls (lv_sub hl [1, 2, 0] rfl) hR
  have L_2 : ∀ (n : Nat) (x2_2 : Nat) (LP4_2 : Nat → Int64) (IP0_2 : Nat → Int32) (hi : x2_2 ≤ 21) (hfu : 21 - x2_2 < n) (H : Heap) (locs : List Loc) (hP : va_P (dC, dI) vwCl (w_P cI cJ cZ aP VP0 VP1 VP2 NP0 LP0 LP1 LP2 LP3 LP4_2 IP0_2 IP1 aS ++ w_S cI cJ cZ aS VS0 VS1 VS2 NS0 NS1 NS2 LS0 LS1 LS2 LS3 LS4 LS5 LS6 LS7 LS8 IS0 aY ++ w_Y cI cJ cZ aY VY0 LY0 LY1 LY2 IY0) H) (hD : va_D A (w_P cI cJ cZ aP VP0 VP1 VP2 NP0 LP0 LP1 LP2 LP3 LP4_2 IP0_2 IP1 aS ++ w_S cI cJ cZ aS VS0 VS1 VS2 NS0 NS1 NS2 LS0 LS1 LS2 LS3 LS4 LS5 LS6 LS7 LS8 IS0 aY ++ w_Y cI cJ cZ aY VY0 LY0 LY1 LY2 IY0)) (hS : va_S A s.heap H locs) (ls : Array Slot) (hl : lv_has ls 4 [(0, .ref (aP 0)), (1, .int (nI x1)), (2, .int (nI x2_2))]) (hR : f_Plan_search_h2  k_2 n x2_2 LP4_2 IP0_2 = r0), W p l e (headSpec u_Plan_search ({ frames := 2, cells := 0, slots := 0, locals := 50 })).room s m ([.ref (aP 0), .int (nI x1)]).toArray below meth c H locs 0 0 (hh_Zi below (dC, dI) vwCl [(cI, .int), (cJ, .long), (cZ, .boolean)] A r0.1 (w_P cI cJ cZ aP VP0 VP1 VP2 NP0 LP0 LP1 LP2 LP3 r0.2.1 r0.2.2.1 r0.2.2.2 aS ++ w_S cI cJ cZ aS VS0 VS1 VS2 NS0 NS1 NS2 LS0 LS1 LS2 LS3 LS4 LS5 LS6 LS7 LS8 IS0 aY ++ w_Y cI cJ cZ aY VY0 LY0 LY1 LY2 IY0) ([.ref (aP 0), .int (nI x1)]).toArray s) (F0 m 2 ls []) := by
    intro n
    induction n with
    | zero =>
      intro x2_2 LP4_2 IP0_2 hi hfu H locs hP hD hS ls hl hR
      exact absurd hfu (Nat.not_lt_zero _)
    | succ n ih_2 =>
      intro x2_2 LP4_2 IP0_2 hi hfu H locs hP hD hS ls hl hR
      rw [f_Plan_search_h2] at hR
      obtain ⟨rec_2, hrec_2, hR⟩ : ∃ r, r = _ ∧ f_Plan_search_h2B  k_2 r x2_2 LP4_2 IP0_2 = r0 := ⟨_, rfl, hR⟩
      unfold f_Plan_search_h2B at hR
      refine lv_iload_n hx hb d_Plan_search_2 rfl (lv_at hl 2 rfl) ?_
      refine lv_bipush (v := nI 21) hx hb d_Plan_search_3 (by decide) ?_
      refine hw_icmp_ge (tgt := 30) hx hb d_Plan_search_5 (by decide) (by omega) (by omega) (fun c5 => ?_) (fun c5 => ?_)
      · replace hR := (if_pos c5).symm.trans hR
        exact X_2 x2_2 LP4_2 IP0_2 (by first | assumption | omega | exact hw_upb (by assumption) (by omega)) H locs hP hD hS ls (lv_sub hl [0, 1, 2] rfl) hR
      · replace hR := (if_neg c5).symm.trans hR
        refine lv_aload_n hx hb d_Plan_search_8 rfl (lv_at hl 0 rfl) ?_
        refine va_get (D := (dC, dI)) (ci := 0) (v := .ref (aP 5)) (C := R_Plan) (T := T_Plan) (N := 12) hx hb hG in_Plan hown hK hP 0 rfl rfl 7 (by decide) (hG _ m_138) (fun _ h9 => h9) rfl d_Plan_search_9 ?_
        refine lv_iload_n hx hb d_Plan_search_12 rfl (lv_at hl 2 rfl) ?_
        refine lv_ldc2 (v := 9223372036854775807) hx hb hown (hG _ m_335) d_Plan_search_13 ?_
        refine hw_last (f := LP4_2) hx hb hK hP hD hS 5 1 rfl rfl (by decide) (by omega) d_Plan_search_16 (fun H locs hP hD hS => ?_)
        have hP : va_P (dC, dI) vwCl (w_P cI cJ cZ aP VP0 VP1 VP2 NP0 LP0 LP1 LP2 LP3 (vp_updL LP4_2 x2_2 9223372036854775807) IP0_2 IP1 aS ++ w_S cI cJ cZ aS VS0 VS1 VS2 NS0 NS1 NS2 LS0 LS1 LS2 LS3 LS4 LS5 LS6 LS7 LS8 IS0 aY ++ w_Y cI cJ cZ aY VY0 LY0 LY1 LY2 IY0) H := hP
        have hD : va_D A (w_P cI cJ cZ aP VP0 VP1 VP2 NP0 LP0 LP1 LP2 LP3 (vp_updL LP4_2 x2_2 9223372036854775807) IP0_2 IP1 aS ++ w_S cI cJ cZ aS VS0 VS1 VS2 NS0 NS1 NS2 LS0 LS1 LS2 LS3 LS4 LS5 LS6 LS7 LS8 IS0 aY ++ w_Y cI cJ cZ aY VY0 LY0 LY1 LY2 IY0) := hD
        refine lv_aload_n hx hb d_Plan_search_17 rfl (lv_at hl 0 rfl) ?_
        refine va_get (D := (dC, dI)) (ci := 0) (v := .ref (aP 6)) (C := R_Plan) (T := T_Plan) (N := 12) hx hb hG in_Plan hown hK hP 0 rfl rfl 8 (by decide) (hG _ m_139) (fun _ h9 => h9) rfl d_Plan_search_18 ?_
        refine lv_iload_n hx hb d_Plan_search_21 rfl (lv_at hl 2 rfl) ?_
        refine lv_iconst (v := nI 0) hx hb d_Plan_search_22 (by decide) ?_
        refine hw_zast (f := IP0_2) hx hb hK hP hD hS 6 2 rfl rfl (by decide) (by omega) (by decide) d_Plan_search_23 (fun H locs hP hD hS => ?_)
        have hP : va_P (dC, dI) vwCl (w_P cI cJ cZ aP VP0 VP1 VP2 NP0 LP0 LP1 LP2 LP3 (vp_updL LP4_2 x2_2 9223372036854775807) (upd IP0_2 x2_2 (nI 0)) IP1 aS ++ w_S cI cJ cZ aS VS0 VS1 VS2 NS0 NS1 NS2 LS0 LS1 LS2 LS3 LS4 LS5 LS6 LS7 LS8 IS0 aY ++ w_Y cI cJ cZ aY VY0 LY0 LY1 LY2 IY0) H := hP
        have hD : va_D A (w_P cI cJ cZ aP VP0 VP1 VP2 NP0 LP0 LP1 LP2 LP3 (vp_updL LP4_2 x2_2 9223372036854775807) (upd IP0_2 x2_2 (nI 0)) IP1 aS ++ w_S cI cJ cZ aS VS0 VS1 VS2 NS0 NS1 NS2 LS0 LS1 LS2 LS3 LS4 LS5 LS6 LS7 LS8 IS0 aY ++ w_Y cI cJ cZ aY VY0 LY0 LY1 LY2 IY0) := hD
        refine lv_iinc (v := nI (x2_2 + 1)) (lv' := [(2, .int (nI (x2_2 + 1))), (0, .ref (aP 0)), (1, .int (nI x1))]) hx hb d_Plan_search_24 hl (k := 2) rfl (hw_inc _ 1) (by decide) rfl (fun ls hl => ?_)
        refine lv_goto (tgt := 2) hx hb d_Plan_search_27 (by decide) ?_
        rw [hrec_2] at hR
        exact ih_2 (x2_2 + 1) (vp_updL LP4_2 x2_2 9223372036854775807) (upd IP0_2 x2_2 (nI 0)) (by first | assumption | omega | exact hw_upb (by assumption) (by omega)) (by omega) H locs hP hD hS ls (lv_sub hl [1, 2, 0] rfl) hR
  exact L_2 22 0 LP4 IP0 (by first | assumption | omega | exact hw_upb (by assumption) (by omega)) (by omega) H locs hP hD hS ls (lv_sub hl [1, 2, 0] rfl) hR
/-- who has been reached hangs on a tree: each node but the start on one of the other side that has been reached -/
def hp_tree (st : Nat) (key : Nat → Int64) (bef : Nat → Int32) : Prop := ∀ v, v < 21 → key v ≠ 9223372036854775807 → v = st ∨ ∃ u, u < 21 ∧ bef v = nI u ∧ key u ≠ 9223372036854775807 ∧ (v < 12 ↔ 12 ≤ u)
theorem hp_updL (f : Nat → Int64) (k : Nat) (x : Int64) : vp_updL f k x k = x := pk_uLs
theorem hp_updLn (f : Nat → Int64) {k j : Nat} (x : Int64) (h : j ≠ k) : vp_updL f k x j = f j := pk_uLn h
theorem hp_reach {st : Nat} {key : Nat → Int64} {done bef : Nat → Int32} {node frm : Nat} {cents : Int64} (ht : hp_tree st key bef) (hf : frm < 21) (hk : key frm ≠ 9223372036854775807) (hpar : node < 12 ↔ 12 ≤ frm) :
    hp_tree st (f_Plan_reach key done bef node frm cents).1 (f_Plan_reach key done bef node frm cents).2 ∧ ∀ v, key v ≠ 9223372036854775807 → (f_Plan_reach key done bef node frm cents).1 v ≠ 9223372036854775807 := by
  unfold f_Plan_reach
  by_cases c1 : done node = 0
  · rw [if_pos c1]
    by_cases c2 : key node ≤ key frm + cents * 32 + 1
    · rw [if_pos c2]
      exact ⟨ht, fun v h => h⟩
    · rw [if_neg c2]
      have hne := hp_lt_far c2
      have mono : ∀ v, key v ≠ 9223372036854775807 → vp_updL key node (key frm + cents * 32 + 1) v ≠ 9223372036854775807 := by
        intro v hv
        by_cases e : v = node
        · subst e
          rw [hp_updL]
          exact hne
        · rw [hp_updLn _ _ e]
          exact hv
      refine ⟨?_, mono⟩
      intro v hv hkv
      by_cases e : v = node
      · subst e
        refine Or.inr ⟨frm, hf, ?_, mono frm hk, hpar⟩
        show upd bef v (nI frm) v = nI frm
        exact pk_us
      · have hkv' : key v ≠ 9223372036854775807 := by
          have h2 := hkv
          show key v ≠ _
          rw [show ((vp_updL key node (key frm + cents * 32 + 1), upd bef node (nI frm)).1 v) = key v from hp_updLn _ _ e] at h2
          exact h2
        rcases ht v hv hkv' with h | ⟨u, h1, h2, h3, h4⟩
        · exact Or.inl h
        · refine Or.inr ⟨u, h1, ?_, mono u h3, h4⟩
          show upd bef node (nI frm) v = nI u
          rw [pk_un e]
          exact h2
  · rw [if_neg c1]
    exact ⟨ht, fun v h => h⟩
theorem hp_reachFills {st VP1 : Nat} {LP1 : Nat → Int64} {x1 : Nat} {IP0 : Nat → Int32} (h8 : VP1 ≤ 8) (hx : x1 < 12) : ∀ (n x2 : Nat) (key : Nat → Int64) (bef : Nat → Int32), hp_tree st key bef → key x1 ≠ 9223372036854775807 →
    hp_tree st (f_Plan_reachFills_h2 VP1 LP1 x1 IP0 f_Plan_reachFills_x2 n x2 key bef).1 (f_Plan_reachFills_h2 VP1 LP1 x1 IP0 f_Plan_reachFills_x2 n x2 key bef).2 ∧ ∀ v, key v ≠ 9223372036854775807 → (f_Plan_reachFills_h2 VP1 LP1 x1 IP0 f_Plan_reachFills_x2 n x2 key bef).1 v ≠ 9223372036854775807 := by
  intro n
  induction n with
  | zero =>
    intro x2 key bef ht hk
    exact ⟨ht, fun v h => h⟩
  | succ n ih =>
    intro x2 key bef ht hk
    rw [f_Plan_reachFills_h2]
    unfold f_Plan_reachFills_h2B hh_bind
    by_cases c1 : VP1 ≤ x2
    · rw [if_pos c1]
      exact ⟨ht, fun v h => h⟩
    · rw [if_neg c1]
      by_cases c2 : LP1 (x1 * 9 + x2) ≤ 0
      · rw [if_pos c2]
        exact ih (x2 + 1) key bef ht hk
      · rw [if_neg c2]
        have h := hp_reach (done := IP0) (node := 12 + x2) (frm := x1) (cents := 0) ht (by omega) hk (by omega)
        obtain ⟨a, b⟩ := ih (x2 + 1) _ _ h.1 (h.2 _ hk)
        exact ⟨a, fun v hv => b v (h.2 v hv)⟩
theorem hp_reachSources {st VP0 : Nat} {LP0 LP2 LP3 : Nat → Int64} {x1 : Nat} {IP0 : Nat → Int32} (h12 : VP0 ≤ 12) (hx : x1 < 9) : ∀ (n x2 : Nat) (key : Nat → Int64) (bef : Nat → Int32), hp_tree st key bef → key (12 + x1) ≠ 9223372036854775807 →
    hp_tree st (f_Plan_reachSources_h2 VP0 LP0 x1 IP0 LP2 LP3 f_Plan_reachSources_x2 n x2 key bef).1 (f_Plan_reachSources_h2 VP0 LP0 x1 IP0 LP2 LP3 f_Plan_reachSources_x2 n x2 key bef).2 ∧ ∀ v, key v ≠ 9223372036854775807 → (f_Plan_reachSources_h2 VP0 LP0 x1 IP0 LP2 LP3 f_Plan_reachSources_x2 n x2 key bef).1 v ≠ 9223372036854775807 := by
  intro n
  induction n with
  | zero =>
    intro x2 key bef ht hk
    exact ⟨ht, fun v h => h⟩
  | succ n ih =>
    intro x2 key bef ht hk
    rw [f_Plan_reachSources_h2]
    unfold f_Plan_reachSources_h2B hh_bind
    by_cases c1 : VP0 ≤ x2
    · rw [if_pos c1]
      exact ⟨ht, fun v h => h⟩
    · rw [if_neg c1]
      by_cases c2 : LP0 (x2 * 9 + x1) = -1
      · rw [if_pos c2]
        exact ih (x2 + 1) key bef ht hk
      · rw [if_neg c2]
        have h := hp_reach (done := IP0) (node := x2) (frm := 12 + x1) (cents := LP0 (x2 * 9 + x1) + LP2 x2 - LP3 x1) ht (by omega) hk (by omega)
        obtain ⟨a, b⟩ := ih (x2 + 1) _ _ h.1 (h.2 _ hk)
        exact ⟨a, fun v hv => b v (h.2 v hv)⟩
/-- what a search answers: -1, or a source with something left, on the tree -/
def hp_found (st : Nat) (load : Nat → Int64) (r : Int32 × (Nat → Int64) × (Nat → Int32) × (Nat → Int32)) : Prop := r.1 = -1 ∨ ∃ j, j < 12 ∧ r.1 = nI j ∧ ¬ load (j * 9 + 8) ≤ 0 ∧ r.2.1 j ≠ 9223372036854775807 ∧ hp_tree st r.2.1 r.2.2.2
theorem hp_search39 {st VP0 VP1 : Nat} {LP0 LP1 LP2 LP3 : Nat → Int64} (h12 : VP0 ≤ 12) (h8 : VP1 ≤ 8) : ∀ (n x2 : Nat) (key : Nat → Int64) (done bef : Nat → Int32), hp_tree st key bef → hp_found st LP1 (f_Plan_search_h39 VP1 VP0 LP0 LP2 LP3 LP1 f_Plan_search_x39 n x2 key done bef) := by
  intro n
  induction n with
  | zero =>
    intro x2 key done bef ht
    exact Or.inl rfl
  | succ n ih =>
    intro x2 key done bef ht
    rw [f_Plan_search_h39]
    unfold f_Plan_search_h39B
    by_cases c1 : 21 ≤ x2
    · rw [if_pos c1]
      exact Or.inl rfl
    · rw [if_neg c1, hh_bind]
      rcases f_Plan_nearest_in VP1 key done with e | ⟨j, hj, e, hk⟩
      · rw [e, if_pos (show (-1 : Int32) < 0 by decide)]
        exact Or.inl rfl
      · rw [e, if_neg (nI_pos (show j < 2 ^ 31 by omega)), nI_clamp (show j < 2 ^ 31 by omega)]
        by_cases c2 : 12 ≤ j
        · rw [if_pos c2, if_pos c2, hh_bind]
          have h := hp_reachSources (LP0 := LP0) (LP2 := LP2) (LP3 := LP3) (IP0 := upd done j (nI 1)) h12 (x1 := j - 12) (by omega) 13 0 key bef ht (by rw [show 12 + (j - 12) = j by omega]; exact hk)
          exact ih (x2 + 1) _ _ _ h.1
        · rw [if_neg c2]
          by_cases c3 : LP1 (j * 9 + 8) ≤ 0
          · rw [if_pos c3, if_neg c2, hh_bind]
            have h := hp_reachFills (LP1 := LP1) (IP0 := upd done j (nI 1)) h8 (x1 := j) (by omega) 9 0 key bef ht hk
            exact ih (x2 + 1) _ _ _ h.1
          · rw [if_neg c3]
            exact Or.inr ⟨j, by omega, rfl, c3, hk, ht⟩
theorem hp_search2 {Post : Int32 × (Nat → Int64) × (Nat → Int32) × (Nat → Int32) → Prop} {k : Nat → (Nat → Int64) → (Nat → Int32) → Int32 × (Nat → Int64) × (Nat → Int32) × (Nat → Int32)} (hk : ∀ x key done, (∀ v, v < 21 → key v = 9223372036854775807) → Post (k x key done)) :
    ∀ (n x2 : Nat) (key : Nat → Int64) (done : Nat → Int32), 21 - x2 < n → (∀ v, v < x2 → key v = 9223372036854775807) → Post (f_Plan_search_h2 k n x2 key done) := by
  intro n
  induction n with
  | zero =>
    intro x2 key done h
    exact absurd h (Nat.not_lt_zero _)
  | succ n ih =>
    intro x2 key done h hv
    rw [f_Plan_search_h2]
    unfold f_Plan_search_h2B
    by_cases c1 : 21 ≤ x2
    · rw [if_pos c1]
      exact hk _ _ _ (fun v h => hv v (by omega))
    · rw [if_neg c1]
      refine ih (x2 + 1) _ _ (by omega) (fun v h => ?_)
      by_cases e : v = x2
      · subst e
        exact hp_updL _ _ _
      · rw [hp_updLn _ _ e]
        exact hv v (by omega)
theorem f_Plan_search_found {VP0 VP1 : Nat} (LP0 LP1 LP2 LP3 LP4 : Nat → Int64) (IP0 IP1 : Nat → Int32) (x1 : Nat) (h12 : VP0 ≤ 12) (h8 : VP1 ≤ 8) : hp_found x1 LP1 (f_Plan_search VP0 VP1 LP0 LP1 LP2 LP3 LP4 IP0 IP1 x1) := by
  unfold f_Plan_search
  refine hp_search2 (fun x key done h => ?_) 22 0 LP4 IP0 (by omega) (fun v h => absurd h (Nat.not_lt_zero _))
  unfold f_Plan_search_x2
  refine hp_search39 h12 h8 22 0 _ _ _ ?_
  intro v hv hkv
  by_cases e : v = x1
  · exact Or.inl e
  · rw [hp_updLn _ _ e] at hkv
    exact absurd (h v hv) hkv
theorem hp_found_lt {st : Nat} {load : Nat → Int64} {r : Int32 × (Nat → Int64) × (Nat → Int32) × (Nat → Int32)} (h : hp_found st load r) : r.1.toNatClampNeg < 12 := by
  rcases h with e | ⟨j, hj, e, -⟩
  · rw [e]
    decide
  · rw [e, nI_clamp (by omega)]
    exact hj
