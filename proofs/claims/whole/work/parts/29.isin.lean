abbrev b_Model_isIn : ByteArray := prog_7_method_3_code
def y_Model_isIn : MethodName := ⟨R_Model, "isIn", "(JJJ)Z"⟩
def u_Model_isIn : List Cond := Cond.code y_Model_isIn b_Model_isIn 6 (some .boolean) :: wG
theorem d_Model_isIn_0 : decode b_Model_isIn 0 = .ok (.lload_n 0, 1) := by decide +kernel
theorem d_Model_isIn_1 : decode b_Model_isIn 1 = .ok (.lload_n 2, 1) := by decide +kernel
theorem d_Model_isIn_2 : decode b_Model_isIn 2 = .ok (.lcmp, 1) := by decide +kernel
theorem d_Model_isIn_3 : decode b_Model_isIn 3 = .ok (.ifCond .lt 14, 3) := by decide +kernel
theorem d_Model_isIn_6 : decode b_Model_isIn 6 = .ok (.lload_n 0, 1) := by decide +kernel
theorem d_Model_isIn_7 : decode b_Model_isIn 7 = .ok (.lload 4, 2) := by decide +kernel
theorem d_Model_isIn_9 : decode b_Model_isIn 9 = .ok (.lcmp, 1) := by decide +kernel
theorem d_Model_isIn_10 : decode b_Model_isIn 10 = .ok (.ifCond .gt 7, 3) := by decide +kernel
theorem d_Model_isIn_13 : decode b_Model_isIn 13 = .ok (.iconst 1, 1) := by decide +kernel
theorem d_Model_isIn_14 : decode b_Model_isIn 14 = .ok (.goto 4, 3) := by decide +kernel
theorem d_Model_isIn_17 : decode b_Model_isIn 17 = .ok (.iconst 0, 1) := by decide +kernel
theorem d_Model_isIn_18 : decode b_Model_isIn 18 = .ok (.ireturn, 1) := by decide +kernel
abbrev b_Model_apart : ByteArray := prog_7_method_13_code
def y_Model_apart : MethodName := ⟨R_Model, "apart", "(JJ)J"⟩
def u_Model_apart : List Cond := Cond.code y_Model_apart b_Model_apart 4 (some .long) :: wG
theorem d_Model_apart_0 : decode b_Model_apart 0 = .ok (.lload_n 0, 1) := by decide +kernel
theorem d_Model_apart_1 : decode b_Model_apart 1 = .ok (.lload_n 2, 1) := by decide +kernel
theorem d_Model_apart_2 : decode b_Model_apart 2 = .ok (.lcmp, 1) := by decide +kernel
theorem d_Model_apart_3 : decode b_Model_apart 3 = .ok (.ifCond .ge 9, 3) := by decide +kernel
theorem d_Model_apart_6 : decode b_Model_apart 6 = .ok (.lload_n 2, 1) := by decide +kernel
theorem d_Model_apart_7 : decode b_Model_apart 7 = .ok (.lload_n 0, 1) := by decide +kernel
theorem d_Model_apart_8 : decode b_Model_apart 8 = .ok (.lsub, 1) := by decide +kernel
theorem d_Model_apart_9 : decode b_Model_apart 9 = .ok (.goto 6, 3) := by decide +kernel
theorem d_Model_apart_12 : decode b_Model_apart 12 = .ok (.lload_n 0, 1) := by decide +kernel
theorem d_Model_apart_13 : decode b_Model_apart 13 = .ok (.lload_n 2, 1) := by decide +kernel
theorem d_Model_apart_14 : decode b_Model_apart 14 = .ok (.lsub, 1) := by decide +kernel
theorem d_Model_apart_15 : decode b_Model_apart 15 = .ok (.lreturn, 1) := by decide +kernel
def w_M (cI cJ cZ : ClassId) (a : Nat → Nat) (V0 : Nat) (V1 : Nat) (V2 : Nat) (V3 : Nat) (V4 : Nat) (V5 : Nat) (W0 : Int64) (N0 : Nat → Nat) (N1 : Nat → Nat) (N2 : Nat → Nat) (L0 : Nat → Int64) (L1 : Nat → Int64) (L2 : Nat → Int64) (L3 : Nat → Int64) (L4 : Nat → Int64) (L5 : Nat → Int64) (L6 : Nat → Int64) (L7 : Nat → Int64) (L8 : Nat → Int64) (L9 : Nat → Int64) (L10 : Nat → Int64) (L11 : Nat → Int64) (L12 : Nat → Int64) (L13 : Nat → Int64) (L14 : Nat → Int64) (L15 : Nat → Int64) (I0 : Nat → Int32) (I1 : Nat → Int32) (I2 : Nat → Int32) (I3 : Nat → Int32) : va_W :=
  [(a 0, .inr (5, [.int (nI V0), .int (nI V1), .ref (a 1), .ref (a 2), .ref (a 3), .ref (a 4), .int (nI V2), .ref (a 5), .ref (a 6), .ref (a 7), .ref (a 8), .ref (a 9), .ref (a 10), .int (nI V3), .ref (a 11), .ref (a 12), .ref (a 13), .ref (a 14), .int (nI V4), .ref (a 15), .ref (a 16), .ref (a 17), .int (nI V5), .ref (a 18), .long W0, .ref (a 19), .ref (a 20), .ref (a 21), .ref (a 22), .ref (a 23)])),
   (a 1, .inl (cJ, 8, .inr (.inl L0))),
   (a 2, .inl (cI, 8, .inl (fun j => nI (N0 j)))),
   (a 3, .inl (cI, 8, .inl (fun j => nI (N1 j)))),
   (a 4, .inl (cJ, 8, .inr (.inl L1))),
   (a 5, .inl (cJ, 8, .inr (.inl L2))),
   (a 6, .inl (cI, 8, .inl (fun j => nI (N2 j)))),
   (a 7, .inl (cJ, 8, .inr (.inl L3))),
   (a 8, .inl (cZ, 32, .inl I0)),
   (a 9, .inl (cJ, 4, .inr (.inl L4))),
   (a 10, .inl (cJ, 4, .inr (.inl L5))),
   (a 11, .inl (cJ, 6, .inr (.inl L6))),
   (a 12, .inl (cJ, 6, .inr (.inl L7))),
   (a 13, .inl (cJ, 6, .inr (.inl L8))),
   (a 14, .inl (cZ, 72, .inl I1)),
   (a 15, .inl (cJ, 4, .inr (.inl L9))),
   (a 16, .inl (cJ, 4, .inr (.inl L10))),
   (a 17, .inl (cJ, 12, .inr (.inl L11))),
   (a 18, .inl (cJ, 96, .inr (.inl L12))),
   (a 19, .inl (cZ, 8, .inl I2)),
   (a 20, .inl (cJ, 1156, .inr (.inl L13))),
   (a 21, .inl (cJ, 1156, .inr (.inl L14))),
   (a 22, .inl (cJ, 34, .inr (.inl L15))),
   (a 23, .inl (cI, 34, .inl I3))]
def f_Model_isIn (x0 : Int64) (x2 : Int64) (x4 : Int64) : Int32 :=
  if x0 < x2 then (nI 0) else (if x4 < x0 then (nI 0) else (nI 1))
set_option maxHeartbeats 4000000 in
set_option maxRecDepth 100000 in
theorem c_Model_isIn (l : Launch) (dC : Nat → ClassId) (dI : Nat → Nat → Nat) (cI cJ cZ : ClassId) (sz : Nat) (x0 : Int64) (x2 : Int64) (x4 : Int64) : hh_Ci l y_Model_isIn u_Model_isIn ({ frames := 0, cells := 0, slots := 0, locals := 0 }) (dC, dI) vwCl [(cI, .int), (cJ, .long), (cZ, .boolean)] (([] : va_W)) sz [.long x0, .long x2, .long x4] (f_Model_isIn x0 x2 x4) (([] : va_W)) 0 0 := by
  unfold hh_Ci
  refine Met.ofW (cc := b_Model_isIn) (maxL := 6) (ret := (some .boolean)) (by decide) rfl ?_
  intro p e s m args below meth c s₁ B hml hv
  obtain ⟨rfl, hsz, hP, hK, hD0⟩ := hv
  have hx := B.exec
  have hb := B.bytes
  have hr := B.returns
  have hts := atoms_spec (ws := u_Model_isIn) B.pre
  have hG : ∀ w ∈ wG, w.before ([.long x0, .long x2, .long x4]).toArray s = true := fun w h => hts w (List.mem_cons_of_mem _ h)
  have hown : s.vm.findClass R_Model = some m.cls := findClass_of_methodNamed B.named
  have hlocks := B.notSynchronized
  subst hsz
  have hD := hD0.self (sz := s.heap.size)
  generalize hAe : va_A (([] : va_W)) s.heap.size = A at hD ⊢
  have hA : ∀ q : Nat, s.heap.size ≤ q → A q := fun q h => by rw [← hAe]; exact Or.inr h
  have hS : va_S A s.heap s.heap [] := va_S.rf
  have hl := lv_entry ([.long x0, .long x2, .long x4]) (n := 6) (Nat.le_of_ble_eq_true rfl)
  rw [lg_entry_eq]
  generalize (lg_sl ([.long x0, .long x2, .long x4]) ++ List.replicate (6 - (lg_sl ([.long x0, .long x2, .long x4])).length) Slot.unset).toArray = ls at hl ⊢
  have hl : lv_has ls 6 [(0, .long x0), (2, .long x2), (4, .long x4)] := hl
  generalize hR : f_Model_isIn x0 x2 x4 = r0
  obtain ⟨H, locs, hHe, hle⟩ : ∃ (H : Heap) (locs : List Loc), s.heap = H ∧ [] = locs := ⟨_, _, rfl, rfl⟩
  have hP : va_P (dC, dI) vwCl (([] : va_W)) H := by rw [← hHe]; exact hP
  have hS : va_S A s.heap H locs := by rw [← hHe, ← hle]; exact hS
  refine hw_start hHe hle ?_
  unfold f_Model_isIn at hR
  refine lv_lload_n hx hb d_Model_isIn_0 rfl (lv_at hl 0 rfl) ?_
  refine lv_lload_n hx hb d_Model_isIn_1 rfl (lv_at hl 1 rfl) ?_
  refine hw_lcmp_lt (tgt := 17) hx hb d_Model_isIn_2 d_Model_isIn_3 (by decide) (fun c2 => ?_) (fun c2 => ?_)
  · replace hR := (if_pos c2).symm.trans hR
    refine lv_iconst (v := nI 0) hx hb d_Model_isIn_17 (by decide) ?_
    subst hR
    exact W.zret (v := nI 0) hx hb hr (by decide) (fun t ht hW => ⟨⟨_, (), rfl, rfl, by rw [ht]; exact hP, va_K.moved hW.alike hK, hD⟩, hS.F ht⟩) hS.2.2 d_Model_isIn_18
  · replace hR := (if_neg c2).symm.trans hR
    refine lv_lload_n hx hb d_Model_isIn_6 rfl (lv_at hl 0 rfl) ?_
    refine lv_lload hx hb d_Model_isIn_7 (lv_at hl 2 rfl) ?_
    refine hw_lcmp_gt (tgt := 17) hx hb d_Model_isIn_9 d_Model_isIn_10 (by decide) (fun c9 => ?_) (fun c9 => ?_)
    · replace hR := (if_pos c9).symm.trans hR
      refine lv_iconst (v := nI 0) hx hb d_Model_isIn_17 (by decide) ?_
      subst hR
      exact W.zret (v := nI 0) hx hb hr (by decide) (fun t ht hW => ⟨⟨_, (), rfl, rfl, by rw [ht]; exact hP, va_K.moved hW.alike hK, hD⟩, hS.F ht⟩) hS.2.2 d_Model_isIn_18
    · replace hR := (if_neg c9).symm.trans hR
      refine lv_iconst (v := nI 1) hx hb d_Model_isIn_13 (by decide) ?_
      refine lv_goto (tgt := 18) hx hb d_Model_isIn_14 (by decide) ?_
      subst hR
      exact W.zret (v := nI 1) hx hb hr (by decide) (fun t ht hW => ⟨⟨_, (), rfl, rfl, by rw [ht]; exact hP, va_K.moved hW.alike hK, hD⟩, hS.F ht⟩) hS.2.2 d_Model_isIn_18
def f_Model_apart (x0 : Int64) (x2 : Int64) : Int64 :=
  if x2 ≤ x0 then (x0 - x2) else (x2 - x0)
set_option maxHeartbeats 4000000 in
set_option maxRecDepth 100000 in
theorem c_Model_apart (l : Launch) (dC : Nat → ClassId) (dI : Nat → Nat → Nat) (cI cJ cZ : ClassId) (sz : Nat) (x0 : Int64) (x2 : Int64) : hh_Cl l y_Model_apart u_Model_apart ({ frames := 0, cells := 0, slots := 0, locals := 0 }) (dC, dI) vwCl [(cI, .int), (cJ, .long), (cZ, .boolean)] (([] : va_W)) sz [.long x0, .long x2] (f_Model_apart x0 x2) (([] : va_W)) 0 0 := by
  unfold hh_Cl
  refine Met.ofW (cc := b_Model_apart) (maxL := 4) (ret := (some .long)) (by decide) rfl ?_
  intro p e s m args below meth c s₁ B hml hv
  obtain ⟨rfl, hsz, hP, hK, hD0⟩ := hv
  have hx := B.exec
  have hb := B.bytes
  have hr := B.returns
  have hts := atoms_spec (ws := u_Model_apart) B.pre
  have hG : ∀ w ∈ wG, w.before ([.long x0, .long x2]).toArray s = true := fun w h => hts w (List.mem_cons_of_mem _ h)
  have hown : s.vm.findClass R_Model = some m.cls := findClass_of_methodNamed B.named
  have hlocks := B.notSynchronized
  subst hsz
  have hD := hD0.self (sz := s.heap.size)
  generalize hAe : va_A (([] : va_W)) s.heap.size = A at hD ⊢
  have hA : ∀ q : Nat, s.heap.size ≤ q → A q := fun q h => by rw [← hAe]; exact Or.inr h
  have hS : va_S A s.heap s.heap [] := va_S.rf
  have hl := lv_entry ([.long x0, .long x2]) (n := 4) (Nat.le_of_ble_eq_true rfl)
  rw [lg_entry_eq]
  generalize (lg_sl ([.long x0, .long x2]) ++ List.replicate (4 - (lg_sl ([.long x0, .long x2])).length) Slot.unset).toArray = ls at hl ⊢
  have hl : lv_has ls 4 [(0, .long x0), (2, .long x2)] := hl
  generalize hR : f_Model_apart x0 x2 = r0
  obtain ⟨H, locs, hHe, hle⟩ : ∃ (H : Heap) (locs : List Loc), s.heap = H ∧ [] = locs := ⟨_, _, rfl, rfl⟩
  have hP : va_P (dC, dI) vwCl (([] : va_W)) H := by rw [← hHe]; exact hP
  have hS : va_S A s.heap H locs := by rw [← hHe, ← hle]; exact hS
  refine hw_start hHe hle ?_
  unfold f_Model_apart at hR
  refine lv_lload_n hx hb d_Model_apart_0 rfl (lv_at hl 0 rfl) ?_
  refine lv_lload_n hx hb d_Model_apart_1 rfl (lv_at hl 1 rfl) ?_
  refine hw_lcmp_ge (tgt := 12) hx hb d_Model_apart_2 d_Model_apart_3 (by decide) (fun c2 => ?_) (fun c2 => ?_)
  · replace hR := (if_pos c2).symm.trans hR
    refine lv_lload_n hx hb d_Model_apart_12 rfl (lv_at hl 0 rfl) ?_
    refine lv_lload_n hx hb d_Model_apart_13 rfl (lv_at hl 1 rfl) ?_
    refine lv_lsub hx hb d_Model_apart_14 ?_
    subst hR
    exact W.lret (v := x0 - x2) hx hb hr (fun t ht hW => ⟨⟨_, (), rfl, rfl, by rw [ht]; exact hP, va_K.moved hW.alike hK, hD⟩, hS.F ht⟩) hS.2.2 d_Model_apart_15
  · replace hR := (if_neg c2).symm.trans hR
    refine lv_lload_n hx hb d_Model_apart_6 rfl (lv_at hl 1 rfl) ?_
    refine lv_lload_n hx hb d_Model_apart_7 rfl (lv_at hl 0 rfl) ?_
    refine lv_lsub hx hb d_Model_apart_8 ?_
    refine lv_goto (tgt := 15) hx hb d_Model_apart_9 (by decide) ?_
    subst hR
    exact W.lret (v := x2 - x0) hx hb hr (fun t ht hW => ⟨⟨_, (), rfl, rfl, by rw [ht]; exact hP, va_K.moved hW.alike hK, hD⟩, hS.F ht⟩) hS.2.2 d_Model_apart_15
theorem hm_toInt (x : Int32) : x.toInt64.toInt = x.toInt := Int32.toInt_toInt64 x
theorem hm_in {x : Int32} {n : Nat} {hi : Int64} (hh : hi.toInt < n) (h : ¬ f_Model_isIn x.toInt64 0 hi = 0) : ¬ x < 0 ∧ x.toNatClampNeg < n := by
  unfold f_Model_isIn at h
  by_cases c1 : x.toInt64 < 0
  · rw [if_pos c1] at h
    exact absurd nI_0 h
  · rw [if_neg c1] at h
    by_cases c2 : hi < x.toInt64
    · rw [if_pos c2] at h
      exact absurd nI_0 h
    · rw [Int64.lt_iff_toInt_lt, hm_toInt] at c1 c2
      have e0 : (0 : Int64).toInt = 0 := by decide
      rw [e0] at c1
      have hx : ¬ x < 0 := by
        rw [Int32.lt_iff_toInt_lt, Int32.toInt_zero]
        exact c1
      refine ⟨hx, ?_⟩
      obtain ⟨j, hj, rfl⟩ := nI_of hx
      rw [nI_clamp hj]
      rw [nI_toInt hj] at c2
      omega
theorem hm_in2 {x lo : Int32} {n : Nat} {hi : Int64} (hh : hi.toInt < n) (hlo : ¬ lo < 0) (h : ¬ f_Model_isIn x.toInt64 lo.toInt64 hi = 0) : ¬ x < 0 ∧ x.toNatClampNeg < n := by
  unfold f_Model_isIn at h
  by_cases c1 : x.toInt64 < lo.toInt64
  · rw [if_pos c1] at h
    exact absurd nI_0 h
  · rw [if_neg c1] at h
    by_cases c2 : hi < x.toInt64
    · rw [if_pos c2] at h
      exact absurd nI_0 h
    · rw [Int64.lt_iff_toInt_lt, hm_toInt, hm_toInt] at c1
      rw [Int64.lt_iff_toInt_lt, hm_toInt] at c2
      rw [Int32.lt_iff_toInt_lt, Int32.toInt_zero] at hlo
      have hx : ¬ x < 0 := by
        rw [Int32.lt_iff_toInt_lt, Int32.toInt_zero]
        omega
      refine ⟨hx, ?_⟩
      obtain ⟨j, hj, rfl⟩ := nI_of hx
      rw [nI_clamp hj]
      rw [nI_toInt hj] at c2
      omega
theorem hm_fm {n : Nat} (h : n < 2 ^ 31) : ((nI n).toInt64 - 1).toInt < (n : Int) := by
  rw [nI_l h]
  rcases Nat.eq_zero_or_pos n with rfl | hp
  · decide
  · have e : lN n - 1 = lN (n - 1) := by
      have h1 := lN_sub (a := n) (b := 1) (by omega)
      exact h1
    rw [e, lN_toInt (by omega)]
    omega
