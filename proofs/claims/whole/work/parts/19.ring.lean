abbrev b_Plan_findRing : ByteArray := prog_2_method_24_code
def y_Plan_findRing : MethodName := ⟨R_Plan, "findRing", "(II)I"⟩
def u_Plan_findRing : List Cond := Cond.code y_Plan_findRing b_Plan_findRing 6 (some .int) :: wG
theorem d_Plan_findRing_0 : decode b_Plan_findRing 0 = .ok (.aload_n 0, 1) := by decide +kernel
theorem d_Plan_findRing_1 : decode b_Plan_findRing 1 = .ok (.getfield 33, 3) := by decide +kernel
theorem d_Plan_findRing_4 : decode b_Plan_findRing 4 = .ok (.iconst (-1), 1) := by decide +kernel
theorem d_Plan_findRing_5 : decode b_Plan_findRing 5 = .ok (.invokestatic 164, 3) := by decide +kernel
theorem d_Plan_findRing_8 : decode b_Plan_findRing 8 = .ok (.aload_n 0, 1) := by decide +kernel
theorem d_Plan_findRing_9 : decode b_Plan_findRing 9 = .ok (.iconst 0, 1) := by decide +kernel
theorem d_Plan_findRing_10 : decode b_Plan_findRing 10 = .ok (.putfield 167, 3) := by decide +kernel
theorem d_Plan_findRing_13 : decode b_Plan_findRing 13 = .ok (.aload_n 0, 1) := by decide +kernel
theorem d_Plan_findRing_14 : decode b_Plan_findRing 14 = .ok (.bipush 12, 2) := by decide +kernel
theorem d_Plan_findRing_16 : decode b_Plan_findRing 16 = .ok (.iload_n 2, 1) := by decide +kernel
theorem d_Plan_findRing_17 : decode b_Plan_findRing 17 = .ok (.iadd, 1) := by decide +kernel
theorem d_Plan_findRing_18 : decode b_Plan_findRing 18 = .ok (.bipush 12, 2) := by decide +kernel
theorem d_Plan_findRing_20 : decode b_Plan_findRing 20 = .ok (.iload_n 2, 1) := by decide +kernel
theorem d_Plan_findRing_21 : decode b_Plan_findRing 21 = .ok (.iadd, 1) := by decide +kernel
theorem d_Plan_findRing_22 : decode b_Plan_findRing 22 = .ok (.invokevirtual 170, 3) := by decide +kernel
theorem d_Plan_findRing_25 : decode b_Plan_findRing 25 = .ok (.iconst 0, 1) := by decide +kernel
theorem d_Plan_findRing_26 : decode b_Plan_findRing 26 = .ok (.istore_n 3, 1) := by decide +kernel
theorem d_Plan_findRing_27 : decode b_Plan_findRing 27 = .ok (.iload_n 3, 1) := by decide +kernel
theorem d_Plan_findRing_28 : decode b_Plan_findRing 28 = .ok (.aload_n 0, 1) := by decide +kernel
theorem d_Plan_findRing_29 : decode b_Plan_findRing 29 = .ok (.getfield 167, 3) := by decide +kernel
theorem d_Plan_findRing_32 : decode b_Plan_findRing 32 = .ok (.if_icmp .ge 81, 3) := by decide +kernel
theorem d_Plan_findRing_35 : decode b_Plan_findRing 35 = .ok (.iload_n 3, 1) := by decide +kernel
theorem d_Plan_findRing_36 : decode b_Plan_findRing 36 = .ok (.bipush 21, 2) := by decide +kernel
theorem d_Plan_findRing_38 : decode b_Plan_findRing 38 = .ok (.if_icmp .ge 75, 3) := by decide +kernel
theorem d_Plan_findRing_41 : decode b_Plan_findRing 41 = .ok (.aload_n 0, 1) := by decide +kernel
theorem d_Plan_findRing_42 : decode b_Plan_findRing 42 = .ok (.getfield 37, 3) := by decide +kernel
theorem d_Plan_findRing_45 : decode b_Plan_findRing 45 = .ok (.iload_n 3, 1) := by decide +kernel
theorem d_Plan_findRing_46 : decode b_Plan_findRing 46 = .ok (.iaload, 1) := by decide +kernel
theorem d_Plan_findRing_47 : decode b_Plan_findRing 47 = .ok (.istore 4, 2) := by decide +kernel
theorem d_Plan_findRing_49 : decode b_Plan_findRing 49 = .ok (.iload 4, 2) := by decide +kernel
theorem d_Plan_findRing_51 : decode b_Plan_findRing 51 = .ok (.bipush 12, 2) := by decide +kernel
theorem d_Plan_findRing_53 : decode b_Plan_findRing 53 = .ok (.if_icmp .ge 12, 3) := by decide +kernel
theorem d_Plan_findRing_56 : decode b_Plan_findRing 56 = .ok (.aload_n 0, 1) := by decide +kernel
theorem d_Plan_findRing_57 : decode b_Plan_findRing 57 = .ok (.iload 4, 2) := by decide +kernel
theorem d_Plan_findRing_59 : decode b_Plan_findRing 59 = .ok (.invokevirtual 173, 3) := by decide +kernel
theorem d_Plan_findRing_62 : decode b_Plan_findRing 62 = .ok (.goto 45, 3) := by decide +kernel
theorem d_Plan_findRing_65 : decode b_Plan_findRing 65 = .ok (.iload 4, 2) := by decide +kernel
theorem d_Plan_findRing_67 : decode b_Plan_findRing 67 = .ok (.bipush 12, 2) := by decide +kernel
theorem d_Plan_findRing_69 : decode b_Plan_findRing 69 = .ok (.isub, 1) := by decide +kernel
theorem d_Plan_findRing_70 : decode b_Plan_findRing 70 = .ok (.istore 5, 2) := by decide +kernel
theorem d_Plan_findRing_72 : decode b_Plan_findRing 72 = .ok (.iload 5, 2) := by decide +kernel
theorem d_Plan_findRing_74 : decode b_Plan_findRing 74 = .ok (.iload_n 2, 1) := by decide +kernel
theorem d_Plan_findRing_75 : decode b_Plan_findRing 75 = .ok (.if_icmp .le 23, 3) := by decide +kernel
theorem d_Plan_findRing_78 : decode b_Plan_findRing 78 = .ok (.aload_n 0, 1) := by decide +kernel
theorem d_Plan_findRing_79 : decode b_Plan_findRing 79 = .ok (.getfield 17, 3) := by decide +kernel
theorem d_Plan_findRing_82 : decode b_Plan_findRing 82 = .ok (.iload_n 1, 1) := by decide +kernel
theorem d_Plan_findRing_83 : decode b_Plan_findRing 83 = .ok (.bipush 9, 2) := by decide +kernel
theorem d_Plan_findRing_85 : decode b_Plan_findRing 85 = .ok (.imul, 1) := by decide +kernel
theorem d_Plan_findRing_86 : decode b_Plan_findRing 86 = .ok (.iload 5, 2) := by decide +kernel
theorem d_Plan_findRing_88 : decode b_Plan_findRing 88 = .ok (.iadd, 1) := by decide +kernel
theorem d_Plan_findRing_89 : decode b_Plan_findRing 89 = .ok (.laload, 1) := by decide +kernel
theorem d_Plan_findRing_90 : decode b_Plan_findRing 90 = .ok (.lconst 0, 1) := by decide +kernel
theorem d_Plan_findRing_91 : decode b_Plan_findRing 91 = .ok (.lcmp, 1) := by decide +kernel
theorem d_Plan_findRing_92 : decode b_Plan_findRing 92 = .ok (.ifCond .le 6, 3) := by decide +kernel
theorem d_Plan_findRing_95 : decode b_Plan_findRing 95 = .ok (.iload 5, 2) := by decide +kernel
theorem d_Plan_findRing_97 : decode b_Plan_findRing 97 = .ok (.ireturn, 1) := by decide +kernel
theorem d_Plan_findRing_98 : decode b_Plan_findRing 98 = .ok (.aload_n 0, 1) := by decide +kernel
theorem d_Plan_findRing_99 : decode b_Plan_findRing 99 = .ok (.iload 5, 2) := by decide +kernel
theorem d_Plan_findRing_101 : decode b_Plan_findRing 101 = .ok (.iload_n 1, 1) := by decide +kernel
theorem d_Plan_findRing_102 : decode b_Plan_findRing 102 = .ok (.iconst 1, 1) := by decide +kernel
theorem d_Plan_findRing_103 : decode b_Plan_findRing 103 = .ok (.iadd, 1) := by decide +kernel
theorem d_Plan_findRing_104 : decode b_Plan_findRing 104 = .ok (.invokevirtual 176, 3) := by decide +kernel
theorem d_Plan_findRing_107 : decode b_Plan_findRing 107 = .ok (.iinc 3 1, 3) := by decide +kernel
theorem d_Plan_findRing_110 : decode b_Plan_findRing 110 = .ok (.goto (-83), 3) := by decide +kernel
theorem d_Plan_findRing_113 : decode b_Plan_findRing 113 = .ok (.iconst (-1), 1) := by decide +kernel
theorem d_Plan_findRing_114 : decode b_Plan_findRing 114 = .ok (.ireturn, 1) := by decide +kernel
theorem hp_cols {st : Nat} {LP0 LP2 LP3 : Nat → Int64} {x1 : Nat} (hx : x1 < 12) : ∀ (n x2 q : Nat) (qu : Nat → Nat) (bef : Nat → Int32), hp_bfs st q qu bef → bef x1 ≠ -1 →
    hp_bfs st (f_Plan_enqueueColumns_h2 LP0 LP2 LP3 x1 f_Plan_enqueueColumns_x2 n x2 q qu bef).1 (f_Plan_enqueueColumns_h2 LP0 LP2 LP3 x1 f_Plan_enqueueColumns_x2 n x2 q qu bef).2.1 (f_Plan_enqueueColumns_h2 LP0 LP2 LP3 x1 f_Plan_enqueueColumns_x2 n x2 q qu bef).2.2 := by
  intro n
  induction n with
  | zero =>
    intro x2 q qu bef h hb
    exact h
  | succ n ih =>
    intro x2 q qu bef h hb
    rw [f_Plan_enqueueColumns_h2]
    unfold f_Plan_enqueueColumns_h2B
    by_cases c1 : 9 ≤ x2
    · rw [if_pos c1]
      exact h
    · rw [if_neg c1, hh_bind]
      by_cases c2 : f_Plan_isFree LP0 LP2 LP3 x1 x2 = 0
      · rw [if_pos c2]
        exact ih (x2 + 1) q qu bef h hb
      · rw [if_neg c2, hh_bind]
        have e := hp_enq (node := 12 + x2) (frm := x1) h (by omega) (by omega) (Or.inr ⟨hb, by omega⟩)
        exact ih (x2 + 1) _ _ _ e.1 (e.2 _ hb)
theorem hp_bfs_columns {st q : Nat} {qu : Nat → Nat} {bef : Nat → Int32} (LP0 LP2 LP3 : Nat → Int64) {x1 : Nat} (hx : x1 < 12) (h : hp_bfs st q qu bef) (hb : bef x1 ≠ -1) : hp_bfs st (f_Plan_enqueueColumns q qu LP0 LP2 LP3 bef x1).1 (f_Plan_enqueueColumns q qu LP0 LP2 LP3 bef x1).2.1 (f_Plan_enqueueColumns q qu LP0 LP2 LP3 bef x1).2.2 := by
  unfold f_Plan_enqueueColumns
  exact hp_cols hx 10 0 q qu bef h hb
theorem hp_givs {st VP0 : Nat} {LP1 : Nat → Int64} {x1 : Nat} (h12 : VP0 ≤ 12) (hx : x1 < 9) : ∀ (n x3 q : Nat) (qu : Nat → Nat) (bef : Nat → Int32), hp_bfs st q qu bef → bef (12 + x1) ≠ -1 →
    hp_bfs st (f_Plan_enqueueGivers_h2 VP0 LP1 x1 f_Plan_enqueueGivers_x2 n x3 q qu bef).1 (f_Plan_enqueueGivers_h2 VP0 LP1 x1 f_Plan_enqueueGivers_x2 n x3 q qu bef).2.1 (f_Plan_enqueueGivers_h2 VP0 LP1 x1 f_Plan_enqueueGivers_x2 n x3 q qu bef).2.2 := by
  intro n
  induction n with
  | zero =>
    intro x3 q qu bef h hb
    exact h
  | succ n ih =>
    intro x3 q qu bef h hb
    rw [f_Plan_enqueueGivers_h2]
    unfold f_Plan_enqueueGivers_h2B
    by_cases c1 : VP0 ≤ x3
    · rw [if_pos c1]
      exact h
    · rw [if_neg c1]
      by_cases c2 : LP1 (x3 * 9 + x1) ≤ 0
      · rw [if_pos c2]
        exact ih (x3 + 1) q qu bef h hb
      · rw [if_neg c2, hh_bind]
        have e := hp_enq (node := x3) (frm := 12 + x1) h (by omega) (by omega) (Or.inr ⟨hb, by omega⟩)
        exact ih (x3 + 1) _ _ _ e.1 (e.2 _ hb)
theorem hp_bfs_givers {st q VP0 : Nat} {qu : Nat → Nat} {bef : Nat → Int32} (LP1 : Nat → Int64) {x1 x2 : Nat} (h12 : VP0 ≤ 12) (hx : x1 < 9) (h : hp_bfs st q qu bef) (hb : bef (12 + x1) ≠ -1) : hp_bfs st (f_Plan_enqueueGivers VP0 q qu LP1 bef x1 x2).1 (f_Plan_enqueueGivers VP0 q qu LP1 bef x1 x2).2.1 (f_Plan_enqueueGivers VP0 q qu LP1 bef x1 x2).2.2 := by
  unfold f_Plan_enqueueGivers
  exact hp_givs h12 hx 13 x2 q qu bef h hb
/-- an empty queue, nobody seen; then the start -/
theorem hp_bfs_start {st : Nat} {qu : Nat → Nat} (bef : Nat → Int32) (hst : st < 21) (hqu : ∀ i, qu i < 21) : hp_bfs st (f_Plan_enqueue 0 qu (hh_fillI 21 bef (-1)) st st).1 (f_Plan_enqueue 0 qu (hh_fillI 21 bef (-1)) st st).2.1 (f_Plan_enqueue 0 qu (hh_fillI 21 bef (-1)) st st).2.2 := by
  refine (hp_enq (node := st) (frm := st) ⟨Nat.zero_le _, hqu, fun i h => absurd h (Nat.not_lt_zero _), fun v hv hb => ?_⟩ hst hst (Or.inl rfl)).1
  unfold hh_fillI at hb
  rw [if_pos hv] at hb
  exact absurd rfl hb
def f_Plan_findRing_h27B (x2 : Nat) (VP0 : Nat) (LP1 : Nat → Int64) (x1 : Nat) (LP0 : Nat → Int64) (LP2 : Nat → Int64) (LP3 : Nat → Int64) (k_27 : (Nat) → (Nat) → (Nat → Nat) → (Nat → Int32) → Int32 × (Nat) × (Nat → Nat) × (Nat → Int32)) (rec_27 : (Nat) → (Nat) → (Nat → Nat) → (Nat → Int32) → Int32 × (Nat) × (Nat → Nat) × (Nat → Int32)) (x3_27 : Nat) (VP2_27 : Nat) (NP0_27 : Nat → Nat) (IP1_27 : Nat → Int32) : Int32 × (Nat) × (Nat → Nat) × (Nat → Int32) :=
  if VP2_27 ≤ x3_27 then (k_27 x3_27 VP2_27 NP0_27 IP1_27) else (if 21 ≤ x3_27 then (k_27 x3_27 VP2_27 NP0_27 IP1_27) else (if 12 ≤ (NP0_27 x3_27) then (if ((NP0_27 x3_27) - 12) ≤ x2 then (hh_bind (f_Plan_enqueueGivers VP0 VP2_27 NP0_27 LP1 IP1_27 ((NP0_27 x3_27) - 12) (x1 + 1)) (fun y104 => rec_27 (x3_27 + 1) y104.1 y104.2.1 y104.2.2)) else (if (LP1 ((x1 * 9) + ((NP0_27 x3_27) - 12))) ≤ 0 then (hh_bind (f_Plan_enqueueGivers VP0 VP2_27 NP0_27 LP1 IP1_27 ((NP0_27 x3_27) - 12) (x1 + 1)) (fun y104 => rec_27 (x3_27 + 1) y104.1 y104.2.1 y104.2.2)) else (nI ((NP0_27 x3_27) - 12), VP2_27, NP0_27, IP1_27))) else (hh_bind (f_Plan_enqueueColumns VP2_27 NP0_27 LP0 LP2 LP3 IP1_27 (NP0_27 x3_27)) (fun y59 => rec_27 (x3_27 + 1) y59.1 y59.2.1 y59.2.2))))
def f_Plan_findRing_h27 (x2 : Nat) (VP0 : Nat) (LP1 : Nat → Int64) (x1 : Nat) (LP0 : Nat → Int64) (LP2 : Nat → Int64) (LP3 : Nat → Int64) (k_27 : (Nat) → (Nat) → (Nat → Nat) → (Nat → Int32) → Int32 × (Nat) × (Nat → Nat) × (Nat → Int32)) : Nat → (Nat) → (Nat) → (Nat → Nat) → (Nat → Int32) → Int32 × (Nat) × (Nat → Nat) × (Nat → Int32)
  | 0, x3_27, VP2_27, NP0_27, IP1_27 => k_27 x3_27 VP2_27 NP0_27 IP1_27
  | n + 1, x3_27, VP2_27, NP0_27, IP1_27 => f_Plan_findRing_h27B x2 VP0 LP1 x1 LP0 LP2 LP3 k_27 (fun x3_27 VP2_27 NP0_27 IP1_27 => f_Plan_findRing_h27 x2 VP0 LP1 x1 LP0 LP2 LP3 k_27 n x3_27 VP2_27 NP0_27 IP1_27) x3_27 VP2_27 NP0_27 IP1_27
def f_Plan_findRing_x27  (x3_27 : Nat) (VP2_27 : Nat) (NP0_27 : Nat → Nat) (IP1_27 : Nat → Int32) : Int32 × (Nat) × (Nat → Nat) × (Nat → Int32) :=
  ((-1), VP2_27, NP0_27, IP1_27)
def f_Plan_findRing (VP0 : Nat) (NP0 : Nat → Nat) (LP0 : Nat → Int64) (LP1 : Nat → Int64) (LP2 : Nat → Int64) (LP3 : Nat → Int64) (IP1 : Nat → Int32) (x1 : Nat) (x2 : Nat) : Int32 × (Nat) × (Nat → Nat) × (Nat → Int32) :=
  hh_bind (f_Plan_enqueue 0 NP0 (hh_fillI 21 IP1 (-1)) (12 + x2) (12 + x2)) (fun y22 => f_Plan_findRing_h27 x2 VP0 LP1 x1 LP0 LP2 LP3 f_Plan_findRing_x27 22 0 y22.1 y22.2.1 y22.2.2)
set_option maxHeartbeats 4000000 in
set_option maxRecDepth 100000 in
theorem c_Plan_findRing (l : Launch) (dC : Nat → ClassId) (dI : Nat → Nat → Nat) (cI cJ cZ : ClassId) (sz : Nat) (aP : Nat → Nat) (VP0 : Nat) (VP1 : Nat) (VP2 : Nat) (NP0 : Nat → Nat) (LP0 : Nat → Int64) (LP1 : Nat → Int64) (LP2 : Nat → Int64) (LP3 : Nat → Int64) (LP4 : Nat → Int64) (IP0 : Nat → Int32) (IP1 : Nat → Int32) (aS : Nat → Nat) (VS0 : Nat) (VS1 : Nat) (VS2 : Nat) (NS0 : Nat → Nat) (NS1 : Nat → Nat) (NS2 : Nat → Nat) (LS0 : Nat → Int64) (LS1 : Nat → Int64) (LS2 : Nat → Int64) (LS3 : Nat → Int64) (LS4 : Nat → Int64) (LS5 : Nat → Int64) (LS6 : Nat → Int64) (LS7 : Nat → Int64) (LS8 : Nat → Int64) (IS0 : Nat → Int32) (aY : Nat → Nat) (VY0 : Nat) (LY0 : Nat → Int64) (LY1 : Nat → Int64) (LY2 : Nat → Int64) (IY0 : Nat → Int32) (x1 : Nat) (x2 : Nat) (hs12 : VP0 ≤ 12) (hq : ∀ i, NP0 i < 21) (hx1 : x1 < 12) (hx2 : x2 < 8) : hh_Ci l y_Plan_findRing u_Plan_findRing ({ frames := 2, cells := 0, slots := 0, locals := 46 }) (dC, dI) vwCl [(cI, .int), (cJ, .long), (cZ, .boolean)] (w_P cI cJ cZ aP VP0 VP1 VP2 NP0 LP0 LP1 LP2 LP3 LP4 IP0 IP1 aS ++ w_S cI cJ cZ aS VS0 VS1 VS2 NS0 NS1 NS2 LS0 LS1 LS2 LS3 LS4 LS5 LS6 LS7 LS8 IS0 aY ++ w_Y cI cJ cZ aY VY0 LY0 LY1 LY2 IY0) sz [.ref (aP 0), .int (nI x1), .int (nI x2)] ((f_Plan_findRing VP0 NP0 LP0 LP1 LP2 LP3 IP1 x1 x2).1) (w_P cI cJ cZ aP VP0 VP1 ((f_Plan_findRing VP0 NP0 LP0 LP1 LP2 LP3 IP1 x1 x2).2.1) ((f_Plan_findRing VP0 NP0 LP0 LP1 LP2 LP3 IP1 x1 x2).2.2.1) LP0 LP1 LP2 LP3 LP4 IP0 ((f_Plan_findRing VP0 NP0 LP0 LP1 LP2 LP3 IP1 x1 x2).2.2.2) aS ++ w_S cI cJ cZ aS VS0 VS1 VS2 NS0 NS1 NS2 LS0 LS1 LS2 LS3 LS4 LS5 LS6 LS7 LS8 IS0 aY ++ w_Y cI cJ cZ aY VY0 LY0 LY1 LY2 IY0) 0 0 := by
  unfold hh_Ci
  refine Met.ofW (cc := b_Plan_findRing) (maxL := 6) (ret := (some .int)) (by decide) rfl ?_
  intro p e s m args below meth c s₁ B hml hv
  obtain ⟨rfl, hsz, hP, hK, hD0⟩ := hv
  have hx := B.exec
  have hb := B.bytes
  have hr := B.returns
  have hts := atoms_spec (ws := u_Plan_findRing) B.pre
  have hG : ∀ w ∈ wG, w.before ([.ref (aP 0), .int (nI x1), .int (nI x2)]).toArray s = true := fun w h => hts w (List.mem_cons_of_mem _ h)
  have hown : s.vm.findClass R_Plan = some m.cls := findClass_of_methodNamed B.named
  have hlocks := B.notSynchronized
  subst hsz
  have hD := hD0.self (sz := s.heap.size)
  generalize hAe : va_A (w_P cI cJ cZ aP VP0 VP1 VP2 NP0 LP0 LP1 LP2 LP3 LP4 IP0 IP1 aS ++ w_S cI cJ cZ aS VS0 VS1 VS2 NS0 NS1 NS2 LS0 LS1 LS2 LS3 LS4 LS5 LS6 LS7 LS8 IS0 aY ++ w_Y cI cJ cZ aY VY0 LY0 LY1 LY2 IY0) s.heap.size = A at hD ⊢
  have hA : ∀ q : Nat, s.heap.size ≤ q → A q := fun q h => by rw [← hAe]; exact Or.inr h
  have hS : va_S A s.heap s.heap [] := va_S.rf
  have hl := lv_entry ([.ref (aP 0), .int (nI x1), .int (nI x2)]) (n := 6) (Nat.le_of_ble_eq_true rfl)
  rw [lg_entry_eq]
  generalize (lg_sl ([.ref (aP 0), .int (nI x1), .int (nI x2)]) ++ List.replicate (6 - (lg_sl ([.ref (aP 0), .int (nI x1), .int (nI x2)])).length) Slot.unset).toArray = ls at hl ⊢
  have hl : lv_has ls 6 [(0, .ref (aP 0)), (1, .int (nI x1)), (2, .int (nI x2))] := hl
  generalize hR : f_Plan_findRing VP0 NP0 LP0 LP1 LP2 LP3 IP1 x1 x2 = r0
  obtain ⟨H, locs, hHe, hle⟩ : ∃ (H : Heap) (locs : List Loc), s.heap = H ∧ [] = locs := ⟨_, _, rfl, rfl⟩
  have hP : va_P (dC, dI) vwCl (w_P cI cJ cZ aP VP0 VP1 VP2 NP0 LP0 LP1 LP2 LP3 LP4 IP0 IP1 aS ++ w_S cI cJ cZ aS VS0 VS1 VS2 NS0 NS1 NS2 LS0 LS1 LS2 LS3 LS4 LS5 LS6 LS7 LS8 IS0 aY ++ w_Y cI cJ cZ aY VY0 LY0 LY1 LY2 IY0) H := by rw [← hHe]; exact hP
  have hS : va_S A s.heap H locs := by rw [← hHe, ← hle]; exact hS
  refine hw_start hHe hle ?_
  unfold f_Plan_findRing at hR
  refine lv_aload_n hx hb d_Plan_findRing_0 rfl (lv_at hl 0 rfl) ?_
  refine va_get (D := (dC, dI)) (ci := 0) (v := .ref (aP 7)) (C := R_Plan) (T := T_Plan) (N := 12) hx hb hG in_Plan hown hK hP 0 rfl rfl 9 (by decide) (hG _ m_140) (fun _ h9 => h9) rfl d_Plan_findRing_1 ?_
  refine lv_iconst (v := (-1)) hx hb d_Plan_findRing_4 (by decide) ?_
  have hM := c_Arrays_fillI l dC dI cI cJ cZ H.size (aP 7) 21 (by decide) IP1 (-1)
  refine hw_callSv (As := [.ref (aP 7), .int (-1)]) (rest := []) (wr := (w_P cI cJ cZ aP VP0 VP1 VP2 NP0 LP0 LP1 LP2 LP3 LP4 IP0 IP1 aS ++ w_S cI cJ cZ aS VS0 VS1 VS2 NS0 NS1 NS2 LS0 LS1 LS2 LS3 LS4 LS5 LS6 LS7 LS8 IS0 aY ++ w_Y cI cJ cZ aY VY0 LY0 LY1 LY2 IY0).eraseIdx 7) ⟨hx, hb, hml, hown, hG⟩ hM (hw_cwS 2 hG m_564 m_565 m_4 m_566 rfl rfl (by decide +kernel) ⟨Nat.le_of_ble_eq_true rfl, Nat.le_of_ble_eq_true rfl⟩) hK hP hD hS hA [7] [0, 1, 2, 3, 4, 5, 6, 8, 9, 10, 11, 12, 13, 14, 15, 16, 17, 18, 19, 20, 21, 22, 23, 24, 25, 26, 27] rfl rfl (by decide) (by decide) (by decide) rfl hl.1 rfl (Nat.le_of_ble_eq_true rfl) d_Plan_findRing_5 ⟨Nat.le_of_ble_eq_true rfl, Nat.le_of_ble_eq_true rfl⟩ (fun H locs hP hD hS => ?_)
  have hP : va_P (dC, dI) vwCl (w_P cI cJ cZ aP VP0 VP1 VP2 NP0 LP0 LP1 LP2 LP3 LP4 IP0 (hh_fillI 21 IP1 (-1)) aS ++ w_S cI cJ cZ aS VS0 VS1 VS2 NS0 NS1 NS2 LS0 LS1 LS2 LS3 LS4 LS5 LS6 LS7 LS8 IS0 aY ++ w_Y cI cJ cZ aY VY0 LY0 LY1 LY2 IY0) H := hP.sub [0, 1, 2, 3, 4, 5, 6, 27, 7, 8, 9, 10, 11, 12, 13, 14, 15, 16, 17, 18, 19, 20, 21, 22, 23, 24, 25, 26] rfl
  have hD : va_D A (w_P cI cJ cZ aP VP0 VP1 VP2 NP0 LP0 LP1 LP2 LP3 LP4 IP0 (hh_fillI 21 IP1 (-1)) aS ++ w_S cI cJ cZ aS VS0 VS1 VS2 NS0 NS1 NS2 LS0 LS1 LS2 LS3 LS4 LS5 LS6 LS7 LS8 IS0 aY ++ w_Y cI cJ cZ aY VY0 LY0 LY1 LY2 IY0) := hD.sub [0, 1, 2, 3, 4, 5, 6, 27, 7, 8, 9, 10, 11, 12, 13, 14, 15, 16, 17, 18, 19, 20, 21, 22, 23, 24, 25, 26] (by decide) rfl
  refine lv_aload_n hx hb d_Plan_findRing_8 rfl (lv_at hl 0 rfl) ?_
  refine lv_iconst (v := nI 0) hx hb d_Plan_findRing_9 (by decide) ?_
  refine va_put (D := (dC, dI)) (ci := 0) (v := .int (nI 0)) (ty := .int) (C := R_Plan) (T := T_Plan) (N := 12) hx hb hG in_Plan ty_Plan tok_Plan nok_Plan hown hK hP hD hS 0 rfl rfl 11 (by decide) (hG _ m_142) (fun _ h9 => h9) rfl (by decide +kernel) rfl rfl (Nat.le_of_ble_eq_true rfl) d_Plan_findRing_10 (fun H locs hP hD hS => ?_)
  have hP : va_P (dC, dI) vwCl (w_P cI cJ cZ aP VP0 VP1 0 NP0 LP0 LP1 LP2 LP3 LP4 IP0 (hh_fillI 21 IP1 (-1)) aS ++ w_S cI cJ cZ aS VS0 VS1 VS2 NS0 NS1 NS2 LS0 LS1 LS2 LS3 LS4 LS5 LS6 LS7 LS8 IS0 aY ++ w_Y cI cJ cZ aY VY0 LY0 LY1 LY2 IY0) H := hP
  have hD : va_D A (w_P cI cJ cZ aP VP0 VP1 0 NP0 LP0 LP1 LP2 LP3 LP4 IP0 (hh_fillI 21 IP1 (-1)) aS ++ w_S cI cJ cZ aS VS0 VS1 VS2 NS0 NS1 NS2 LS0 LS1 LS2 LS3 LS4 LS5 LS6 LS7 LS8 IS0 aY ++ w_Y cI cJ cZ aY VY0 LY0 LY1 LY2 IY0) := hD
  refine lv_aload_n hx hb d_Plan_findRing_13 rfl (lv_at hl 0 rfl) ?_
  refine lv_bipush (v := nI 12) hx hb d_Plan_findRing_14 (by decide) ?_
  refine lv_iload_n hx hb d_Plan_findRing_16 rfl (lv_at hl 2 rfl) ?_
  refine hw_iadd hx hb d_Plan_findRing_17 ?_
  refine lv_bipush (v := nI 12) hx hb d_Plan_findRing_18 (by decide) ?_
  refine lv_iload_n hx hb d_Plan_findRing_20 rfl (lv_at hl 2 rfl) ?_
  refine hw_iadd hx hb d_Plan_findRing_21 ?_
  obtain ⟨y22, hy22, hR⟩ := hw_bind hR
  have hM := c_Plan_enqueue l dC dI cI cJ cZ H.size aP VP0 VP1 0 NP0 LP0 LP1 LP2 LP3 LP4 IP0 (hh_fillI 21 IP1 (-1)) aS VS0 VS1 VS2 NS0 NS1 NS2 LS0 LS1 LS2 LS3 LS4 LS5 LS6 LS7 LS8 IS0 aY VY0 LY0 LY1 LY2 IY0 (12 + x2) (12 + x2) (by first | assumption | omega) (by first | assumption | omega) (by first | assumption | omega)
  rw [hy22] at hM
  refine hw_callVv (As := [.int (nI (12 + x2)), .int (nI (12 + x2))]) (rest := []) (wr := ([] : va_W)) ⟨hx, hb, hml, hown, hG⟩ hM (hw_cwV 2 hG m_567 m_569 mp_14 m_5 m_570 rfl rfl (by decide +kernel) ⟨Nat.le_of_ble_eq_true rfl, Nat.le_of_ble_eq_true rfl⟩) hK hP hD hS hA [0, 1, 2, 3, 4, 5, 6, 7, 8, 9, 10, 11, 12, 13, 14, 15, 16, 17, 18, 19, 20, 21, 22, 23, 24, 25, 26, 27] [] rfl rfl (by decide) (by decide) (by decide) (hw_recv hK hP 0 rfl rfl) rfl hl.1 rfl (Nat.le_of_ble_eq_true rfl) d_Plan_findRing_22 ⟨Nat.le_of_ble_eq_true rfl, Nat.le_of_ble_eq_true rfl⟩ (fun H locs hP hD hS => ?_)
  have hP : va_P (dC, dI) vwCl (w_P cI cJ cZ aP VP0 VP1 y22.1 y22.2.1 LP0 LP1 LP2 LP3 LP4 IP0 y22.2.2 aS ++ w_S cI cJ cZ aS VS0 VS1 VS2 NS0 NS1 NS2 LS0 LS1 LS2 LS3 LS4 LS5 LS6 LS7 LS8 IS0 aY ++ w_Y cI cJ cZ aY VY0 LY0 LY1 LY2 IY0) H := hP
  have hD : va_D A (w_P cI cJ cZ aP VP0 VP1 y22.1 y22.2.1 LP0 LP1 LP2 LP3 LP4 IP0 y22.2.2 aS ++ w_S cI cJ cZ aS VS0 VS1 VS2 NS0 NS1 NS2 LS0 LS1 LS2 LS3 LS4 LS5 LS6 LS7 LS8 IS0 aY ++ w_Y cI cJ cZ aY VY0 LY0 LY1 LY2 IY0) := hD
  have hqe22 := f_Plan_enqueue_le NP0 (hh_fillI 21 IP1 (-1)) (12 + x2) (12 + x2) (show 0 ≤ 21 by first | assumption | omega)
  rw [hy22] at hqe22
  have hbf := hp_bfs_start (st := 12 + x2) IP1 (by omega) hq
  rw [hy22] at hbf
  refine lv_iconst (v := nI 0) hx hb d_Plan_findRing_25 (by decide) ?_
  refine lv_istore_n (lv' := [(3, .int (nI 0)), (0, .ref (aP 0)), (1, .int (nI x1)), (2, .int (nI x2))]) hx hb d_Plan_findRing_26 rfl hl (by decide) rfl (fun ls hl => ?_)
  obtain ⟨k_27, hk_27, hR⟩ : ∃ k, f_Plan_findRing_x27 = k ∧ f_Plan_findRing_h27 x2 VP0 LP1 x1 LP0 LP2 LP3 k 22 0 y22.1 y22.2.1 y22.2.2 = r0 := ⟨_, rfl, hR⟩
  have X_27 : ∀ (x3_27 : Nat) (VP2_27 : Nat) (NP0_27 : Nat → Nat) (IP1_27 : Nat → Int32) (hi : x3_27 ≤ 21) (hbf : hp_bfs (12 + x2) VP2_27 NP0_27 IP1_27) (H : Heap) (locs : List Loc) (hP : va_P (dC, dI) vwCl (w_P cI cJ cZ aP VP0 VP1 VP2_27 NP0_27 LP0 LP1 LP2 LP3 LP4 IP0 IP1_27 aS ++ w_S cI cJ cZ aS VS0 VS1 VS2 NS0 NS1 NS2 LS0 LS1 LS2 LS3 LS4 LS5 LS6 LS7 LS8 IS0 aY ++ w_Y cI cJ cZ aY VY0 LY0 LY1 LY2 IY0) H) (hD : va_D A (w_P cI cJ cZ aP VP0 VP1 VP2_27 NP0_27 LP0 LP1 LP2 LP3 LP4 IP0 IP1_27 aS ++ w_S cI cJ cZ aS VS0 VS1 VS2 NS0 NS1 NS2 LS0 LS1 LS2 LS3 LS4 LS5 LS6 LS7 LS8 IS0 aY ++ w_Y cI cJ cZ aY VY0 LY0 LY1 LY2 IY0)) (hS : va_S A s.heap H locs) (ls : Array Slot) (hl : lv_has ls 6 [(0, .ref (aP 0)), (1, .int (nI x1)), (2, .int (nI x2)), (3, .int (nI x3_27))]) (hR : k_27 x3_27 VP2_27 NP0_27 IP1_27 = r0), W p l e (headSpec u_Plan_findRing ({ frames := 2, cells := 0, slots := 0, locals := 46 })).room s m ([.ref (aP 0), .int (nI x1), .int (nI x2)]).toArray below meth c H locs 0 0 (hh_Zi below (dC, dI) vwCl [(cI, .int), (cJ, .long), (cZ, .boolean)] A r0.1 (w_P cI cJ cZ aP VP0 VP1 r0.2.1 r0.2.2.1 LP0 LP1 LP2 LP3 LP4 IP0 r0.2.2.2 aS ++ w_S cI cJ cZ aS VS0 VS1 VS2 NS0 NS1 NS2 LS0 LS1 LS2 LS3 LS4 LS5 LS6 LS7 LS8 IS0 aY ++ w_Y cI cJ cZ aY VY0 LY0 LY1 LY2 IY0) ([.ref (aP 0), .int (nI x1), .int (nI x2)]).toArray s) (F0 m 113 ls []) := by
    intro x3_27 VP2_27 NP0_27 IP1_27 hi hbf H locs hP hD hS ls hl hR
    rw [← hk_27] at hR
    unfold f_Plan_findRing_x27 at hR
    refine lv_iconst (v := (-1)) hx hb d_Plan_findRing_113 (by decide) ?_
    subst hR
    exact W.iret (v := (-1)) hx hb hr (fun t ht hW => ⟨⟨_, (), rfl, rfl, by rw [ht]; exact hP, va_K.moved hW.alike hK, hD⟩, hS.F ht⟩) hS.2.2 d_Plan_findRing_114
  have L_27 : ∀ (n : Nat) (x3_27 : Nat) (VP2_27 : Nat) (NP0_27 : Nat → Nat) (IP1_27 : Nat → Int32) (hi : x3_27 ≤ 21) (hbf : hp_bfs (12 + x2) VP2_27 NP0_27 IP1_27) (hfu : 21 - x3_27 < n) (H : Heap) (locs : List Loc) (hP : va_P (dC, dI) vwCl (w_P cI cJ cZ aP VP0 VP1 VP2_27 NP0_27 LP0 LP1 LP2 LP3 LP4 IP0 IP1_27 aS ++ w_S cI cJ cZ aS VS0 VS1 VS2 NS0 NS1 NS2 LS0 LS1 LS2 LS3 LS4 LS5 LS6 LS7 LS8 IS0 aY ++ w_Y cI cJ cZ aY VY0 LY0 LY1 LY2 IY0) H) (hD : va_D A (w_P cI cJ cZ aP VP0 VP1 VP2_27 NP0_27 LP0 LP1 LP2 LP3 LP4 IP0 IP1_27 aS ++ w_S cI cJ cZ aS VS0 VS1 VS2 NS0 NS1 NS2 LS0 LS1 LS2 LS3 LS4 LS5 LS6 LS7 LS8 IS0 aY ++ w_Y cI cJ cZ aY VY0 LY0 LY1 LY2 IY0)) (hS : va_S A s.heap H locs) (ls : Array Slot) (hl : lv_has ls 6 [(0, .ref (aP 0)), (1, .int (nI x1)), (2, .int (nI x2)), (3, .int (nI x3_27))]) (hR : f_Plan_findRing_h27 x2 VP0 LP1 x1 LP0 LP2 LP3 k_27 n x3_27 VP2_27 NP0_27 IP1_27 = r0), W p l e (headSpec u_Plan_findRing ({ frames := 2, cells := 0, slots := 0, locals := 46 })).room s m ([.ref (aP 0), .int (nI x1), .int (nI x2)]).toArray below meth c H locs 0 0 (hh_Zi below (dC, dI) vwCl [(cI, .int), (cJ, .long), (cZ, .boolean)] A r0.1 (w_P cI cJ cZ aP VP0 VP1 r0.2.1 r0.2.2.1 LP0 LP1 LP2 LP3 LP4 IP0 r0.2.2.2 aS ++ w_S cI cJ cZ aS VS0 VS1 VS2 NS0 NS1 NS2 LS0 LS1 LS2 LS3 LS4 LS5 LS6 LS7 LS8 IS0 aY ++ w_Y cI cJ cZ aY VY0 LY0 LY1 LY2 IY0) ([.ref (aP 0), .int (nI x1), .int (nI x2)]).toArray s) (F0 m 27 ls []) := by
    intro n
    induction n with
    | zero =>
      intro x3_27 VP2_27 NP0_27 IP1_27 hi hbf hfu H locs hP hD hS ls hl hR
      exact absurd hfu (Nat.not_lt_zero _)
    | succ n ih_27 =>
      intro x3_27 VP2_27 NP0_27 IP1_27 hi hbf hfu H locs hP hD hS ls hl hR
      rw [f_Plan_findRing_h27] at hR
      obtain ⟨rec_27, hrec_27, hR⟩ : ∃ r, r = _ ∧ f_Plan_findRing_h27B x2 VP0 LP1 x1 LP0 LP2 LP3 k_27 r x3_27 VP2_27 NP0_27 IP1_27 = r0 := ⟨_, rfl, hR⟩
      unfold f_Plan_findRing_h27B at hR
      have hq2 := hbf.1
      have hq := hbf.2.1
      refine lv_iload_n hx hb d_Plan_findRing_27 rfl (lv_at hl 3 rfl) ?_
      refine lv_aload_n hx hb d_Plan_findRing_28 rfl (lv_at hl 0 rfl) ?_
      refine va_get (D := (dC, dI)) (ci := 0) (v := .int (nI VP2_27)) (C := R_Plan) (T := T_Plan) (N := 12) hx hb hG in_Plan hown hK hP 0 rfl rfl 11 (by decide) (hG _ m_142) (fun _ h9 => h9) rfl d_Plan_findRing_29 ?_
      refine hw_icmp_ge (tgt := 113) hx hb d_Plan_findRing_32 (by decide) (by omega) (by omega) (fun c32 => ?_) (fun c32 => ?_)
      · replace hR := (if_pos c32).symm.trans hR
        exact X_27 x3_27 VP2_27 NP0_27 IP1_27 (by first | assumption | omega | exact hw_upb (by assumption) (by omega)) (by first | assumption | omega | exact hw_upb (by assumption) (by omega)) H locs hP hD hS ls (lv_sub hl [0, 1, 2, 3] rfl) hR
      · replace hR := (if_neg c32).symm.trans hR
        refine lv_iload_n hx hb d_Plan_findRing_35 rfl (lv_at hl 3 rfl) ?_
        refine lv_bipush (v := nI 21) hx hb d_Plan_findRing_36 (by decide) ?_
        refine hw_icmp_ge (tgt := 113) hx hb d_Plan_findRing_38 (by decide) (by omega) (by omega) (fun c38 => ?_) (fun c38 => ?_)
        · replace hR := (if_pos c38).symm.trans hR
          exact X_27 x3_27 VP2_27 NP0_27 IP1_27 (by first | assumption | omega | exact hw_upb (by assumption) (by omega)) (by first | assumption | omega | exact hw_upb (by assumption) (by omega)) H locs hP hD hS ls (lv_sub hl [0, 1, 2, 3] rfl) hR
        · replace hR := (if_neg c38).symm.trans hR
          refine lv_aload_n hx hb d_Plan_findRing_41 rfl (lv_at hl 0 rfl) ?_
          refine va_get (D := (dC, dI)) (ci := 0) (v := .ref (aP 8)) (C := R_Plan) (T := T_Plan) (N := 12) hx hb hG in_Plan hown hK hP 0 rfl rfl 10 (by decide) (hG _ m_141) (fun _ h9 => h9) rfl d_Plan_findRing_42 ?_
          refine lv_iload_n hx hb d_Plan_findRing_45 rfl (lv_at hl 3 rfl) ?_
          refine hw_nald (g := NP0_27) hx hb hK hP 8 0 rfl rfl (by decide) (by omega) d_Plan_findRing_46 ?_
          have hb46 := hq x3_27
          refine lv_istore (lv' := [(4, .int (nI (NP0_27 x3_27))), (0, .ref (aP 0)), (1, .int (nI x1)), (2, .int (nI x2)), (3, .int (nI x3_27))]) hx hb d_Plan_findRing_47 hl (by decide) rfl (fun ls hl => ?_)
          have hnb := hbf.2.2.1 x3_27 (by omega)
          refine lv_iload hx hb d_Plan_findRing_49 (lv_at hl 0 rfl) ?_
          refine lv_bipush (v := nI 12) hx hb d_Plan_findRing_51 (by decide) ?_
          refine hw_icmp_ge (tgt := 65) hx hb d_Plan_findRing_53 (by decide) (by omega) (by omega) (fun c53 => ?_) (fun c53 => ?_)
          · replace hR := (if_pos c53).symm.trans hR
            refine lv_iload hx hb d_Plan_findRing_65 (lv_at hl 0 rfl) ?_
            refine lv_bipush (v := nI 12) hx hb d_Plan_findRing_67 (by decide) ?_
            refine hw_isub hx hb d_Plan_findRing_69 (by omega) ?_
            refine lv_istore (lv' := [(5, .int (nI ((NP0_27 x3_27) - 12))), (4, .int (nI (NP0_27 x3_27))), (0, .ref (aP 0)), (1, .int (nI x1)), (2, .int (nI x2)), (3, .int (nI x3_27))]) hx hb d_Plan_findRing_70 hl (by decide) rfl (fun ls hl => ?_)
            have hnb : IP1_27 (12 + (NP0_27 x3_27 - 12)) ≠ -1 := by rw [show 12 + (NP0_27 x3_27 - 12) = NP0_27 x3_27 by omega]; exact hnb
            refine lv_iload hx hb d_Plan_findRing_72 (lv_at hl 0 rfl) ?_
            refine lv_iload_n hx hb d_Plan_findRing_74 rfl (lv_at hl 4 rfl) ?_
            refine hw_icmp_le (tgt := 98) hx hb d_Plan_findRing_75 (by decide) (by omega) (by omega) (fun c75 => ?_) (fun c75 => ?_)
            · replace hR := (if_pos c75).symm.trans hR
              refine lv_aload_n hx hb d_Plan_findRing_98 rfl (lv_at hl 2 rfl) ?_
              refine lv_iload hx hb d_Plan_findRing_99 (lv_at hl 0 rfl) ?_
              refine lv_iload_n hx hb d_Plan_findRing_101 rfl (lv_at hl 3 rfl) ?_
              refine lv_iconst (v := nI 1) hx hb d_Plan_findRing_102 (by decide) ?_
              refine hw_iadd hx hb d_Plan_findRing_103 ?_
              obtain ⟨y104, hy104, hR⟩ := hw_bind hR
              have hM := c_Plan_enqueueGivers l dC dI cI cJ cZ H.size aP VP0 VP1 VP2_27 NP0_27 LP0 LP1 LP2 LP3 LP4 IP0 IP1_27 aS VS0 VS1 VS2 NS0 NS1 NS2 LS0 LS1 LS2 LS3 LS4 LS5 LS6 LS7 LS8 IS0 aY VY0 LY0 LY1 LY2 IY0 ((NP0_27 x3_27) - 12) (x1 + 1) (by first | assumption | omega) (by first | assumption | omega) (by first | assumption | omega) (by first | assumption | omega)
              rw [hy104] at hM
              refine hw_callVv (As := [.int (nI ((NP0_27 x3_27) - 12)), .int (nI (x1 + 1))]) (rest := []) (wr := ([] : va_W)) ⟨hx, hb, hml, hown, hG⟩ hM (hw_cwV 2 hG m_575 m_577 mp_16 m_5 m_578 rfl rfl (by decide +kernel) ⟨Nat.le_of_ble_eq_true rfl, Nat.le_of_ble_eq_true rfl⟩) hK hP hD hS hA [0, 1, 2, 3, 4, 5, 6, 7, 8, 9, 10, 11, 12, 13, 14, 15, 16, 17, 18, 19, 20, 21, 22, 23, 24, 25, 26, 27] [] rfl rfl (by decide) (by decide) (by decide) (hw_recv hK hP 0 rfl rfl) rfl hl.1 rfl (Nat.le_of_ble_eq_true rfl) d_Plan_findRing_104 ⟨Nat.le_of_ble_eq_true rfl, Nat.le_of_ble_eq_true rfl⟩ (fun H locs hP hD hS => ?_)
              have hP : va_P (dC, dI) vwCl (w_P cI cJ cZ aP VP0 VP1 y104.1 y104.2.1 LP0 LP1 LP2 LP3 LP4 IP0 y104.2.2 aS ++ w_S cI cJ cZ aS VS0 VS1 VS2 NS0 NS1 NS2 LS0 LS1 LS2 LS3 LS4 LS5 LS6 LS7 LS8 IS0 aY ++ w_Y cI cJ cZ aY VY0 LY0 LY1 LY2 IY0) H := hP
              have hD : va_D A (w_P cI cJ cZ aP VP0 VP1 y104.1 y104.2.1 LP0 LP1 LP2 LP3 LP4 IP0 y104.2.2 aS ++ w_S cI cJ cZ aS VS0 VS1 VS2 NS0 NS1 NS2 LS0 LS1 LS2 LS3 LS4 LS5 LS6 LS7 LS8 IS0 aY ++ w_Y cI cJ cZ aY VY0 LY0 LY1 LY2 IY0) := hD
              have hbf := hp_bfs_givers LP1 (x2 := x1 + 1) hs12 (show NP0_27 x3_27 - 12 < 9 by omega) hbf hnb
              rw [hy104] at hbf
              refine lv_iinc (v := nI (x3_27 + 1)) (lv' := [(3, .int (nI (x3_27 + 1))), (5, .int (nI ((NP0_27 x3_27) - 12))), (4, .int (nI (NP0_27 x3_27))), (0, .ref (aP 0)), (1, .int (nI x1)), (2, .int (nI x2))]) hx hb d_Plan_findRing_107 hl (k := 5) rfl (hw_inc _ 1) (by decide) rfl (fun ls hl => ?_)
              refine lv_goto (tgt := 27) hx hb d_Plan_findRing_110 (by decide) ?_
              rw [hrec_27] at hR
              exact ih_27 (x3_27 + 1) y104.1 y104.2.1 y104.2.2 (by first | assumption | omega | exact hw_upb (by assumption) (by omega)) (by first | assumption | omega | exact hw_upb (by assumption) (by omega)) (by omega) H locs hP hD hS ls (lv_sub hl [3, 4, 5, 0] rfl) hR
            · replace hR := (if_neg c75).symm.trans hR
              refine lv_aload_n hx hb d_Plan_findRing_78 rfl (lv_at hl 2 rfl) ?_
              refine va_get (D := (dC, dI)) (ci := 0) (v := .ref (aP 2)) (C := R_Plan) (T := T_Plan) (N := 12) hx hb hG in_Plan hown hK hP 0 rfl rfl 4 (by decide) (hG _ m_135) (fun _ h9 => h9) rfl d_Plan_findRing_79 ?_
              refine lv_iload_n hx hb d_Plan_findRing_82 rfl (lv_at hl 3 rfl) ?_
              refine lv_bipush (v := nI 9) hx hb d_Plan_findRing_83 (by decide) ?_
              refine hw_imul hx hb d_Plan_findRing_85 ?_
              refine lv_iload hx hb d_Plan_findRing_86 (lv_at hl 0 rfl) ?_
              refine hw_iadd hx hb d_Plan_findRing_88 ?_
              refine hw_lald (f := LP1) hx hb hK hP 2 1 rfl rfl (by decide) (by omega) d_Plan_findRing_89 ?_
              refine lv_lconst (v := 0) hx hb d_Plan_findRing_90 (by decide) ?_
              refine hw_lcmp_le (tgt := 98) hx hb d_Plan_findRing_91 d_Plan_findRing_92 (by decide) (fun c91 => ?_) (fun c91 => ?_)
              · replace hR := (if_pos c91).symm.trans hR
                refine lv_aload_n hx hb d_Plan_findRing_98 rfl (lv_at hl 2 rfl) ?_
                refine lv_iload hx hb d_Plan_findRing_99 (lv_at hl 0 rfl) ?_
                refine lv_iload_n hx hb d_Plan_findRing_101 rfl (lv_at hl 3 rfl) ?_
                refine lv_iconst (v := nI 1) hx hb d_Plan_findRing_102 (by decide) ?_
                refine hw_iadd hx hb d_Plan_findRing_103 ?_
                obtain ⟨y104, hy104, hR⟩ := hw_bind hR
                have hM := c_Plan_enqueueGivers l dC dI cI cJ cZ H.size aP VP0 VP1 VP2_27 NP0_27 LP0 LP1 LP2 LP3 LP4 IP0 IP1_27 aS VS0 VS1 VS2 NS0 NS1 NS2 LS0 LS1 LS2 LS3 LS4 LS5 LS6 LS7 LS8 IS0 aY VY0 LY0 LY1 LY2 IY0 ((NP0_27 x3_27) - 12) (x1 + 1) (by first | assumption | omega) (by first | assumption | omega) (by first | assumption | omega) (by first | assumption | omega)
                rw [hy104] at hM
                refine hw_callVv (As := [.int (nI ((NP0_27 x3_27) - 12)), .int (nI (x1 + 1))]) (rest := []) (wr := ([] : va_W)) ⟨hx, hb, hml, hown, hG⟩ hM (hw_cwV 2 hG m_575 m_577 mp_16 m_5 m_578 rfl rfl (by decide +kernel) ⟨Nat.le_of_ble_eq_true rfl, Nat.le_of_ble_eq_true rfl⟩) hK hP hD hS hA [0, 1, 2, 3, 4, 5, 6, 7, 8, 9, 10, 11, 12, 13, 14, 15, 16, 17, 18, 19, 20, 21, 22, 23, 24, 25, 26, 27] [] rfl rfl (by decide) (by decide) (by decide) (hw_recv hK hP 0 rfl rfl) rfl hl.1 rfl (Nat.le_of_ble_eq_true rfl) d_Plan_findRing_104 ⟨Nat.le_of_ble_eq_true rfl, Nat.le_of_ble_eq_true rfl⟩ (fun H locs hP hD hS => ?_)
                have hP : va_P (dC, dI) vwCl (w_P cI cJ cZ aP VP0 VP1 y104.1 y104.2.1 LP0 LP1 LP2 LP3 LP4 IP0 y104.2.2 aS ++ w_S cI cJ cZ aS VS0 VS1 VS2 NS0 NS1 NS2 LS0 LS1 LS2 LS3 LS4 LS5 LS6 LS7 LS8 IS0 aY ++ w_Y cI cJ cZ aY VY0 LY0 LY1 LY2 IY0) H := hP
                have hD : va_D A (w_P cI cJ cZ aP VP0 VP1 y104.1 y104.2.1 LP0 LP1 LP2 LP3 LP4 IP0 y104.2.2 aS ++ w_S cI cJ cZ aS VS0 VS1 VS2 NS0 NS1 NS2 LS0 LS1 LS2 LS3 LS4 LS5 LS6 LS7 LS8 IS0 aY ++ w_Y cI cJ cZ aY VY0 LY0 LY1 LY2 IY0) := hD
                have hbf := hp_bfs_givers LP1 (x2 := x1 + 1) hs12 (show NP0_27 x3_27 - 12 < 9 by omega) hbf hnb
                rw [hy104] at hbf
                refine lv_iinc (v := nI (x3_27 + 1)) (lv' := [(3, .int (nI (x3_27 + 1))), (5, .int (nI ((NP0_27 x3_27) - 12))), (4, .int (nI (NP0_27 x3_27))), (0, .ref (aP 0)), (1, .int (nI x1)), (2, .int (nI x2))]) hx hb d_Plan_findRing_107 hl (k := 5) rfl (hw_inc _ 1) (by decide) rfl (fun ls hl => ?_)
                refine lv_goto (tgt := 27) hx hb d_Plan_findRing_110 (by decide) ?_
                rw [hrec_27] at hR
                exact ih_27 (x3_27 + 1) y104.1 y104.2.1 y104.2.2 (by first | assumption | omega | exact hw_upb (by assumption) (by omega)) (by first | assumption | omega | exact hw_upb (by assumption) (by omega)) (by omega) H locs hP hD hS ls (lv_sub hl [3, 4, 5, 0] rfl) hR
              · replace hR := (if_neg c91).symm.trans hR
                refine lv_iload hx hb d_Plan_findRing_95 (lv_at hl 0 rfl) ?_
                subst hR
                exact W.iret (v := nI ((NP0_27 x3_27) - 12)) hx hb hr (fun t ht hW => ⟨⟨_, (), rfl, rfl, by rw [ht]; exact hP, va_K.moved hW.alike hK, hD⟩, hS.F ht⟩) hS.2.2 d_Plan_findRing_97
          · replace hR := (if_neg c53).symm.trans hR
            refine lv_aload_n hx hb d_Plan_findRing_56 rfl (lv_at hl 1 rfl) ?_
            refine lv_iload hx hb d_Plan_findRing_57 (lv_at hl 0 rfl) ?_
            obtain ⟨y59, hy59, hR⟩ := hw_bind hR
            have hM := c_Plan_enqueueColumns l dC dI cI cJ cZ H.size aP VP0 VP1 VP2_27 NP0_27 LP0 LP1 LP2 LP3 LP4 IP0 IP1_27 aS VS0 VS1 VS2 NS0 NS1 NS2 LS0 LS1 LS2 LS3 LS4 LS5 LS6 LS7 LS8 IS0 aY VY0 LY0 LY1 LY2 IY0 (NP0_27 x3_27) (by first | assumption | omega) (by first | assumption | omega)
            rw [hy59] at hM
            refine hw_callVv (As := [.int (nI (NP0_27 x3_27))]) (rest := []) (wr := ([] : va_W)) ⟨hx, hb, hml, hown, hG⟩ hM (hw_cwV 1 hG m_571 m_573 mp_15 m_5 m_574 rfl rfl (by decide +kernel) ⟨Nat.le_of_ble_eq_true rfl, Nat.le_of_ble_eq_true rfl⟩) hK hP hD hS hA [0, 1, 2, 3, 4, 5, 6, 7, 8, 9, 10, 11, 12, 13, 14, 15, 16, 17, 18, 19, 20, 21, 22, 23, 24, 25, 26, 27] [] rfl rfl (by decide) (by decide) (by decide) (hw_recv hK hP 0 rfl rfl) rfl hl.1 rfl (Nat.le_of_ble_eq_true rfl) d_Plan_findRing_59 ⟨Nat.le_of_ble_eq_true rfl, Nat.le_of_ble_eq_true rfl⟩ (fun H locs hP hD hS => ?_)
            have hP : va_P (dC, dI) vwCl (w_P cI cJ cZ aP VP0 VP1 y59.1 y59.2.1 LP0 LP1 LP2 LP3 LP4 IP0 y59.2.2 aS ++ w_S cI cJ cZ aS VS0 VS1 VS2 NS0 NS1 NS2 LS0 LS1 LS2 LS3 LS4 LS5 LS6 LS7 LS8 IS0 aY ++ w_Y cI cJ cZ aY VY0 LY0 LY1 LY2 IY0) H := hP
            have hD : va_D A (w_P cI cJ cZ aP VP0 VP1 y59.1 y59.2.1 LP0 LP1 LP2 LP3 LP4 IP0 y59.2.2 aS ++ w_S cI cJ cZ aS VS0 VS1 VS2 NS0 NS1 NS2 LS0 LS1 LS2 LS3 LS4 LS5 LS6 LS7 LS8 IS0 aY ++ w_Y cI cJ cZ aY VY0 LY0 LY1 LY2 IY0) := hD
            have hbf := hp_bfs_columns LP0 LP2 LP3 (x1 := NP0_27 x3_27) (by omega) hbf hnb
            rw [hy59] at hbf
            refine lv_goto (tgt := 107) hx hb d_Plan_findRing_62 (by decide) ?_
            refine lv_iinc (v := nI (x3_27 + 1)) (lv' := [(3, .int (nI (x3_27 + 1))), (4, .int (nI (NP0_27 x3_27))), (0, .ref (aP 0)), (1, .int (nI x1)), (2, .int (nI x2))]) hx hb d_Plan_findRing_107 hl (k := 4) rfl (hw_inc _ 1) (by decide) rfl (fun ls hl => ?_)
            refine lv_goto (tgt := 27) hx hb d_Plan_findRing_110 (by decide) ?_
            rw [hrec_27] at hR
            exact ih_27 (x3_27 + 1) y59.1 y59.2.1 y59.2.2 (by first | assumption | omega | exact hw_upb (by assumption) (by omega)) (by first | assumption | omega | exact hw_upb (by assumption) (by omega)) (by omega) H locs hP hD hS ls (lv_sub hl [2, 3, 4, 0] rfl) hR
  exact L_27 22 0 y22.1 y22.2.1 y22.2.2 (by first | assumption | omega | exact hw_upb (by assumption) (by omega)) (by first | assumption | omega | exact hw_upb (by assumption) (by omega)) (by omega) H locs hP hD hS ls (lv_sub hl [1, 2, 3, 0] rfl) hR
