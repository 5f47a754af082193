abbrev b_HaulFlows_isBelow : ByteArray := prog_1_method_22_code
def y_HaulFlows_isBelow : MethodName := ⟨R_HaulFlows, "isBelow", "(II)Z"⟩
def u_HaulFlows_isBelow : List Cond := Cond.code y_HaulFlows_isBelow b_HaulFlows_isBelow 2 (some .boolean) :: wG
theorem d_HaulFlows_isBelow_0 : decode b_HaulFlows_isBelow 0 = .ok (.iload_n 0, 1) := by decide +kernel
theorem d_HaulFlows_isBelow_1 : decode b_HaulFlows_isBelow 1 = .ok (.ifCond .lt 12, 3) := by decide +kernel
theorem d_HaulFlows_isBelow_4 : decode b_HaulFlows_isBelow 4 = .ok (.iload_n 0, 1) := by decide +kernel
theorem d_HaulFlows_isBelow_5 : decode b_HaulFlows_isBelow 5 = .ok (.iload_n 1, 1) := by decide +kernel
theorem d_HaulFlows_isBelow_6 : decode b_HaulFlows_isBelow 6 = .ok (.if_icmp .ge 7, 3) := by decide +kernel
theorem d_HaulFlows_isBelow_9 : decode b_HaulFlows_isBelow 9 = .ok (.iconst 1, 1) := by decide +kernel
theorem d_HaulFlows_isBelow_10 : decode b_HaulFlows_isBelow 10 = .ok (.goto 4, 3) := by decide +kernel
theorem d_HaulFlows_isBelow_13 : decode b_HaulFlows_isBelow 13 = .ok (.iconst 0, 1) := by decide +kernel
theorem d_HaulFlows_isBelow_14 : decode b_HaulFlows_isBelow 14 = .ok (.ireturn, 1) := by decide +kernel
abbrev b_HaulFlows_isVolume : ByteArray := prog_1_method_23_code
def y_HaulFlows_isVolume : MethodName := ⟨R_HaulFlows, "isVolume", "(J)Z"⟩
def u_HaulFlows_isVolume : List Cond := Cond.code y_HaulFlows_isVolume b_HaulFlows_isVolume 2 (some .boolean) :: wG
theorem d_HaulFlows_isVolume_0 : decode b_HaulFlows_isVolume 0 = .ok (.lload_n 0, 1) := by decide +kernel
theorem d_HaulFlows_isVolume_1 : decode b_HaulFlows_isVolume 1 = .ok (.lconst 1, 1) := by decide +kernel
theorem d_HaulFlows_isVolume_2 : decode b_HaulFlows_isVolume 2 = .ok (.lcmp, 1) := by decide +kernel
theorem d_HaulFlows_isVolume_3 : decode b_HaulFlows_isVolume 3 = .ok (.ifCond .lt 15, 3) := by decide +kernel
theorem d_HaulFlows_isVolume_6 : decode b_HaulFlows_isVolume 6 = .ok (.lload_n 0, 1) := by decide +kernel
theorem d_HaulFlows_isVolume_7 : decode b_HaulFlows_isVolume 7 = .ok (.ldc2_w 201, 3) := by decide +kernel
theorem d_HaulFlows_isVolume_10 : decode b_HaulFlows_isVolume 10 = .ok (.lcmp, 1) := by decide +kernel
theorem d_HaulFlows_isVolume_11 : decode b_HaulFlows_isVolume 11 = .ok (.ifCond .gt 7, 3) := by decide +kernel
theorem d_HaulFlows_isVolume_14 : decode b_HaulFlows_isVolume 14 = .ok (.iconst 1, 1) := by decide +kernel
theorem d_HaulFlows_isVolume_15 : decode b_HaulFlows_isVolume 15 = .ok (.goto 4, 3) := by decide +kernel
theorem d_HaulFlows_isVolume_18 : decode b_HaulFlows_isVolume 18 = .ok (.iconst 0, 1) := by decide +kernel
theorem d_HaulFlows_isVolume_19 : decode b_HaulFlows_isVolume 19 = .ok (.ireturn, 1) := by decide +kernel
abbrev b_HaulFlows_isMetre : ByteArray := prog_1_method_24_code
def y_HaulFlows_isMetre : MethodName := ⟨R_HaulFlows, "isMetre", "(J)Z"⟩
def u_HaulFlows_isMetre : List Cond := Cond.code y_HaulFlows_isMetre b_HaulFlows_isMetre 2 (some .boolean) :: wG
theorem d_HaulFlows_isMetre_0 : decode b_HaulFlows_isMetre 0 = .ok (.lload_n 0, 1) := by decide +kernel
theorem d_HaulFlows_isMetre_1 : decode b_HaulFlows_isMetre 1 = .ok (.lconst 0, 1) := by decide +kernel
theorem d_HaulFlows_isMetre_2 : decode b_HaulFlows_isMetre 2 = .ok (.lcmp, 1) := by decide +kernel
theorem d_HaulFlows_isMetre_3 : decode b_HaulFlows_isMetre 3 = .ok (.ifCond .lt 15, 3) := by decide +kernel
theorem d_HaulFlows_isMetre_6 : decode b_HaulFlows_isMetre 6 = .ok (.lload_n 0, 1) := by decide +kernel
theorem d_HaulFlows_isMetre_7 : decode b_HaulFlows_isMetre 7 = .ok (.ldc2_w 203, 3) := by decide +kernel
theorem d_HaulFlows_isMetre_10 : decode b_HaulFlows_isMetre 10 = .ok (.lcmp, 1) := by decide +kernel
theorem d_HaulFlows_isMetre_11 : decode b_HaulFlows_isMetre 11 = .ok (.ifCond .gt 7, 3) := by decide +kernel
theorem d_HaulFlows_isMetre_14 : decode b_HaulFlows_isMetre 14 = .ok (.iconst 1, 1) := by decide +kernel
theorem d_HaulFlows_isMetre_15 : decode b_HaulFlows_isMetre 15 = .ok (.goto 4, 3) := by decide +kernel
theorem d_HaulFlows_isMetre_18 : decode b_HaulFlows_isMetre 18 = .ok (.iconst 0, 1) := by decide +kernel
theorem d_HaulFlows_isMetre_19 : decode b_HaulFlows_isMetre 19 = .ok (.ireturn, 1) := by decide +kernel
abbrev b_HaulFlows_isCents : ByteArray := prog_1_method_25_code
def y_HaulFlows_isCents : MethodName := ⟨R_HaulFlows, "isCents", "(J)Z"⟩
def u_HaulFlows_isCents : List Cond := Cond.code y_HaulFlows_isCents b_HaulFlows_isCents 2 (some .boolean) :: wG
theorem d_HaulFlows_isCents_0 : decode b_HaulFlows_isCents 0 = .ok (.lload_n 0, 1) := by decide +kernel
theorem d_HaulFlows_isCents_1 : decode b_HaulFlows_isCents 1 = .ok (.lconst 0, 1) := by decide +kernel
theorem d_HaulFlows_isCents_2 : decode b_HaulFlows_isCents 2 = .ok (.lcmp, 1) := by decide +kernel
theorem d_HaulFlows_isCents_3 : decode b_HaulFlows_isCents 3 = .ok (.ifCond .lt 15, 3) := by decide +kernel
theorem d_HaulFlows_isCents_6 : decode b_HaulFlows_isCents 6 = .ok (.lload_n 0, 1) := by decide +kernel
theorem d_HaulFlows_isCents_7 : decode b_HaulFlows_isCents 7 = .ok (.ldc2_w 203, 3) := by decide +kernel
theorem d_HaulFlows_isCents_10 : decode b_HaulFlows_isCents 10 = .ok (.lcmp, 1) := by decide +kernel
theorem d_HaulFlows_isCents_11 : decode b_HaulFlows_isCents 11 = .ok (.ifCond .gt 7, 3) := by decide +kernel
theorem d_HaulFlows_isCents_14 : decode b_HaulFlows_isCents 14 = .ok (.iconst 1, 1) := by decide +kernel
theorem d_HaulFlows_isCents_15 : decode b_HaulFlows_isCents 15 = .ok (.goto 4, 3) := by decide +kernel
theorem d_HaulFlows_isCents_18 : decode b_HaulFlows_isCents 18 = .ok (.iconst 0, 1) := by decide +kernel
theorem d_HaulFlows_isCents_19 : decode b_HaulFlows_isCents 19 = .ok (.ireturn, 1) := by decide +kernel
abbrev b_HaulFlows_isSwell : ByteArray := prog_1_method_26_code
def y_HaulFlows_isSwell : MethodName := ⟨R_HaulFlows, "isSwell", "(J)Z"⟩
def u_HaulFlows_isSwell : List Cond := Cond.code y_HaulFlows_isSwell b_HaulFlows_isSwell 2 (some .boolean) :: wG
theorem d_HaulFlows_isSwell_0 : decode b_HaulFlows_isSwell 0 = .ok (.lload_n 0, 1) := by decide +kernel
theorem d_HaulFlows_isSwell_1 : decode b_HaulFlows_isSwell 1 = .ok (.lconst 1, 1) := by decide +kernel
theorem d_HaulFlows_isSwell_2 : decode b_HaulFlows_isSwell 2 = .ok (.lcmp, 1) := by decide +kernel
theorem d_HaulFlows_isSwell_3 : decode b_HaulFlows_isSwell 3 = .ok (.ifCond .lt 15, 3) := by decide +kernel
theorem d_HaulFlows_isSwell_6 : decode b_HaulFlows_isSwell 6 = .ok (.lload_n 0, 1) := by decide +kernel
theorem d_HaulFlows_isSwell_7 : decode b_HaulFlows_isSwell 7 = .ok (.ldc2_w 205, 3) := by decide +kernel
theorem d_HaulFlows_isSwell_10 : decode b_HaulFlows_isSwell 10 = .ok (.lcmp, 1) := by decide +kernel
theorem d_HaulFlows_isSwell_11 : decode b_HaulFlows_isSwell 11 = .ok (.ifCond .gt 7, 3) := by decide +kernel
theorem d_HaulFlows_isSwell_14 : decode b_HaulFlows_isSwell 14 = .ok (.iconst 1, 1) := by decide +kernel
theorem d_HaulFlows_isSwell_15 : decode b_HaulFlows_isSwell 15 = .ok (.goto 4, 3) := by decide +kernel
theorem d_HaulFlows_isSwell_18 : decode b_HaulFlows_isSwell 18 = .ok (.iconst 0, 1) := by decide +kernel
theorem d_HaulFlows_isSwell_19 : decode b_HaulFlows_isSwell 19 = .ok (.ireturn, 1) := by decide +kernel
abbrev b_HaulFlows_partOfChange : ByteArray := prog_1_method_21_code
def y_HaulFlows_partOfChange : MethodName := ⟨R_HaulFlows, "partOfChange", "(JI)J"⟩
def u_HaulFlows_partOfChange : List Cond := Cond.code y_HaulFlows_partOfChange b_HaulFlows_partOfChange 4 (some .long) :: wG
theorem d_HaulFlows_partOfChange_0 : decode b_HaulFlows_partOfChange 0 = .ok (.lload_n 0, 1) := by decide +kernel
theorem d_HaulFlows_partOfChange_1 : decode b_HaulFlows_partOfChange 1 = .ok (.ldc2_w 124, 3) := by decide +kernel
theorem d_HaulFlows_partOfChange_4 : decode b_HaulFlows_partOfChange 4 = .ok (.lcmp, 1) := by decide +kernel
theorem d_HaulFlows_partOfChange_5 : decode b_HaulFlows_partOfChange 5 = .ok (.ifCond .eq 7, 3) := by decide +kernel
theorem d_HaulFlows_partOfChange_8 : decode b_HaulFlows_partOfChange 8 = .ok (.iconst 1, 1) := by decide +kernel
theorem d_HaulFlows_partOfChange_9 : decode b_HaulFlows_partOfChange 9 = .ok (.goto 4, 3) := by decide +kernel
theorem d_HaulFlows_partOfChange_12 : decode b_HaulFlows_partOfChange 12 = .ok (.iconst 0, 1) := by decide +kernel
theorem d_HaulFlows_partOfChange_13 : decode b_HaulFlows_partOfChange 13 = .ok (.istore_n 3, 1) := by decide +kernel
theorem d_HaulFlows_partOfChange_14 : decode b_HaulFlows_partOfChange 14 = .ok (.iload_n 2, 1) := by decide +kernel
theorem d_HaulFlows_partOfChange_15 : decode b_HaulFlows_partOfChange 15 = .ok (.iconst 1, 1) := by decide +kernel
theorem d_HaulFlows_partOfChange_16 : decode b_HaulFlows_partOfChange 16 = .ok (.if_icmp .ne 13, 3) := by decide +kernel
theorem d_HaulFlows_partOfChange_19 : decode b_HaulFlows_partOfChange 19 = .ok (.iload_n 3, 1) := by decide +kernel
theorem d_HaulFlows_partOfChange_20 : decode b_HaulFlows_partOfChange 20 = .ok (.ifCond .eq 7, 3) := by decide +kernel
theorem d_HaulFlows_partOfChange_23 : decode b_HaulFlows_partOfChange 23 = .ok (.lconst 1, 1) := by decide +kernel
theorem d_HaulFlows_partOfChange_24 : decode b_HaulFlows_partOfChange 24 = .ok (.goto 4, 3) := by decide +kernel
theorem d_HaulFlows_partOfChange_27 : decode b_HaulFlows_partOfChange 27 = .ok (.lconst 0, 1) := by decide +kernel
theorem d_HaulFlows_partOfChange_28 : decode b_HaulFlows_partOfChange 28 = .ok (.lreturn, 1) := by decide +kernel
theorem d_HaulFlows_partOfChange_29 : decode b_HaulFlows_partOfChange 29 = .ok (.iload_n 3, 1) := by decide +kernel
theorem d_HaulFlows_partOfChange_30 : decode b_HaulFlows_partOfChange 30 = .ok (.ifCond .eq 7, 3) := by decide +kernel
theorem d_HaulFlows_partOfChange_33 : decode b_HaulFlows_partOfChange 33 = .ok (.lload_n 0, 1) := by decide +kernel
theorem d_HaulFlows_partOfChange_34 : decode b_HaulFlows_partOfChange 34 = .ok (.goto 4, 3) := by decide +kernel
theorem d_HaulFlows_partOfChange_37 : decode b_HaulFlows_partOfChange 37 = .ok (.lconst 0, 1) := by decide +kernel
theorem d_HaulFlows_partOfChange_38 : decode b_HaulFlows_partOfChange 38 = .ok (.lreturn, 1) := by decide +kernel
def f_HaulFlows_isBelow (x0 : Int32) (x1 : Int32) : Int32 :=
  if x0 < 0 then (nI 0) else (if x1 ≤ x0 then (nI 0) else (nI 1))
set_option maxHeartbeats 4000000 in
set_option maxRecDepth 100000 in
theorem c_HaulFlows_isBelow (l : Launch) (dC : Nat → ClassId) (dI : Nat → Nat → Nat) (cI cJ cZ : ClassId) (sz : Nat) (x0 : Int32) (x1 : Int32) : hh_Ci l y_HaulFlows_isBelow u_HaulFlows_isBelow ({ frames := 0, cells := 0, slots := 0, locals := 0 }) (dC, dI) vwCl [(cI, .int), (cJ, .long), (cZ, .boolean)] (([] : va_W)) sz [.int x0, .int x1] (f_HaulFlows_isBelow x0 x1) (([] : va_W)) 0 0 := by
  unfold hh_Ci
  refine Met.ofW (cc := b_HaulFlows_isBelow) (maxL := 2) (ret := (some .boolean)) (by decide) rfl ?_
  intro p e s m args below meth c s₁ B hml hv
  obtain ⟨rfl, hsz, hP, hK, hD0⟩ := hv
  have hx := B.exec
  have hb := B.bytes
  have hr := B.returns
  have hts := atoms_spec (ws := u_HaulFlows_isBelow) B.pre
  have hG : ∀ w ∈ wG, w.before ([.int x0, .int x1]).toArray s = true := fun w h => hts w (List.mem_cons_of_mem _ h)
  have hown : s.vm.findClass R_HaulFlows = some m.cls := findClass_of_methodNamed B.named
  have hlocks := B.notSynchronized
  subst hsz
  have hD := hD0.self (sz := s.heap.size)
  generalize hAe : va_A (([] : va_W)) s.heap.size = A at hD ⊢
  have hA : ∀ q : Nat, s.heap.size ≤ q → A q := fun q h => by rw [← hAe]; exact Or.inr h
  have hS : va_S A s.heap s.heap [] := va_S.rf
  have hl := lv_entry ([.int x0, .int x1]) (n := 2) (Nat.le_of_ble_eq_true rfl)
  rw [lg_entry_eq]
  generalize (lg_sl ([.int x0, .int x1]) ++ List.replicate (2 - (lg_sl ([.int x0, .int x1])).length) Slot.unset).toArray = ls at hl ⊢
  have hl : lv_has ls 2 [(0, .int x0), (1, .int x1)] := hl
  generalize hR : f_HaulFlows_isBelow x0 x1 = r0
  obtain ⟨H, locs, hHe, hle⟩ : ∃ (H : Heap) (locs : List Loc), s.heap = H ∧ [] = locs := ⟨_, _, rfl, rfl⟩
  have hP : va_P (dC, dI) vwCl (([] : va_W)) H := by rw [← hHe]; exact hP
  have hS : va_S A s.heap H locs := by rw [← hHe, ← hle]; exact hS
  refine hw_start hHe hle ?_
  unfold f_HaulFlows_isBelow at hR
  refine lv_iload_n hx hb d_HaulFlows_isBelow_0 rfl (lv_at hl 0 rfl) ?_
  refine lv_if_lt (tgt := 13) hx hb d_HaulFlows_isBelow_1 (by decide) (fun c1 => ?_) (fun c1 => ?_)
  · replace hR := (if_pos c1).symm.trans hR
    refine lv_iconst (v := nI 0) hx hb d_HaulFlows_isBelow_13 (by decide) ?_
    subst hR
    exact W.zret (v := nI 0) hx hb hr (by decide) (fun t ht hW => ⟨⟨_, (), rfl, rfl, by rw [ht]; exact hP, va_K.moved hW.alike hK, hD⟩, hS.F ht⟩) hS.2.2 d_HaulFlows_isBelow_14
  · replace hR := (if_neg c1).symm.trans hR
    refine lv_iload_n hx hb d_HaulFlows_isBelow_4 rfl (lv_at hl 0 rfl) ?_
    refine lv_iload_n hx hb d_HaulFlows_isBelow_5 rfl (lv_at hl 1 rfl) ?_
    refine lv_icmp_ge (tgt := 13) hx hb d_HaulFlows_isBelow_6 (by decide) (fun c6 => ?_) (fun c6 => ?_)
    · replace hR := (if_pos c6).symm.trans hR
      refine lv_iconst (v := nI 0) hx hb d_HaulFlows_isBelow_13 (by decide) ?_
      subst hR
      exact W.zret (v := nI 0) hx hb hr (by decide) (fun t ht hW => ⟨⟨_, (), rfl, rfl, by rw [ht]; exact hP, va_K.moved hW.alike hK, hD⟩, hS.F ht⟩) hS.2.2 d_HaulFlows_isBelow_14
    · replace hR := (if_neg c6).symm.trans hR
      refine lv_iconst (v := nI 1) hx hb d_HaulFlows_isBelow_9 (by decide) ?_
      refine lv_goto (tgt := 14) hx hb d_HaulFlows_isBelow_10 (by decide) ?_
      subst hR
      exact W.zret (v := nI 1) hx hb hr (by decide) (fun t ht hW => ⟨⟨_, (), rfl, rfl, by rw [ht]; exact hP, va_K.moved hW.alike hK, hD⟩, hS.F ht⟩) hS.2.2 d_HaulFlows_isBelow_14
def f_HaulFlows_isVolume (x0 : Int64) : Int32 :=
  if x0 < 1 then (nI 0) else (if 1000000 < x0 then (nI 0) else (nI 1))
set_option maxHeartbeats 4000000 in
set_option maxRecDepth 100000 in
theorem c_HaulFlows_isVolume (l : Launch) (dC : Nat → ClassId) (dI : Nat → Nat → Nat) (cI cJ cZ : ClassId) (sz : Nat) (x0 : Int64) : hh_Ci l y_HaulFlows_isVolume u_HaulFlows_isVolume ({ frames := 0, cells := 0, slots := 0, locals := 0 }) (dC, dI) vwCl [(cI, .int), (cJ, .long), (cZ, .boolean)] (([] : va_W)) sz [.long x0] (f_HaulFlows_isVolume x0) (([] : va_W)) 0 0 := by
  unfold hh_Ci
  refine Met.ofW (cc := b_HaulFlows_isVolume) (maxL := 2) (ret := (some .boolean)) (by decide) rfl ?_
  intro p e s m args below meth c s₁ B hml hv
  obtain ⟨rfl, hsz, hP, hK, hD0⟩ := hv
  have hx := B.exec
  have hb := B.bytes
  have hr := B.returns
  have hts := atoms_spec (ws := u_HaulFlows_isVolume) B.pre
  have hG : ∀ w ∈ wG, w.before ([.long x0]).toArray s = true := fun w h => hts w (List.mem_cons_of_mem _ h)
  have hown : s.vm.findClass R_HaulFlows = some m.cls := findClass_of_methodNamed B.named
  have hlocks := B.notSynchronized
  subst hsz
  have hD := hD0.self (sz := s.heap.size)
  generalize hAe : va_A (([] : va_W)) s.heap.size = A at hD ⊢
  have hA : ∀ q : Nat, s.heap.size ≤ q → A q := fun q h => by rw [← hAe]; exact Or.inr h
  have hS : va_S A s.heap s.heap [] := va_S.rf
  have hl := lv_entry ([.long x0]) (n := 2) (Nat.le_of_ble_eq_true rfl)
  rw [lg_entry_eq]
  generalize (lg_sl ([.long x0]) ++ List.replicate (2 - (lg_sl ([.long x0])).length) Slot.unset).toArray = ls at hl ⊢
  have hl : lv_has ls 2 [(0, .long x0)] := hl
  generalize hR : f_HaulFlows_isVolume x0 = r0
  obtain ⟨H, locs, hHe, hle⟩ : ∃ (H : Heap) (locs : List Loc), s.heap = H ∧ [] = locs := ⟨_, _, rfl, rfl⟩
  have hP : va_P (dC, dI) vwCl (([] : va_W)) H := by rw [← hHe]; exact hP
  have hS : va_S A s.heap H locs := by rw [← hHe, ← hle]; exact hS
  refine hw_start hHe hle ?_
  unfold f_HaulFlows_isVolume at hR
  refine lv_lload_n hx hb d_HaulFlows_isVolume_0 rfl (lv_at hl 0 rfl) ?_
  refine lv_lconst (v := 1) hx hb d_HaulFlows_isVolume_1 (by decide) ?_
  refine hw_lcmp_lt (tgt := 18) hx hb d_HaulFlows_isVolume_2 d_HaulFlows_isVolume_3 (by decide) (fun c2 => ?_) (fun c2 => ?_)
  · replace hR := (if_pos c2).symm.trans hR
    refine lv_iconst (v := nI 0) hx hb d_HaulFlows_isVolume_18 (by decide) ?_
    subst hR
    exact W.zret (v := nI 0) hx hb hr (by decide) (fun t ht hW => ⟨⟨_, (), rfl, rfl, by rw [ht]; exact hP, va_K.moved hW.alike hK, hD⟩, hS.F ht⟩) hS.2.2 d_HaulFlows_isVolume_19
  · replace hR := (if_neg c2).symm.trans hR
    refine lv_lload_n hx hb d_HaulFlows_isVolume_6 rfl (lv_at hl 0 rfl) ?_
    refine lv_ldc2 (v := 1000000) hx hb hown (hG _ m_219) d_HaulFlows_isVolume_7 ?_
    refine hw_lcmp_gt (tgt := 18) hx hb d_HaulFlows_isVolume_10 d_HaulFlows_isVolume_11 (by decide) (fun c10 => ?_) (fun c10 => ?_)
    · replace hR := (if_pos c10).symm.trans hR
      refine lv_iconst (v := nI 0) hx hb d_HaulFlows_isVolume_18 (by decide) ?_
      subst hR
      exact W.zret (v := nI 0) hx hb hr (by decide) (fun t ht hW => ⟨⟨_, (), rfl, rfl, by rw [ht]; exact hP, va_K.moved hW.alike hK, hD⟩, hS.F ht⟩) hS.2.2 d_HaulFlows_isVolume_19
    · replace hR := (if_neg c10).symm.trans hR
      refine lv_iconst (v := nI 1) hx hb d_HaulFlows_isVolume_14 (by decide) ?_
      refine lv_goto (tgt := 19) hx hb d_HaulFlows_isVolume_15 (by decide) ?_
      subst hR
      exact W.zret (v := nI 1) hx hb hr (by decide) (fun t ht hW => ⟨⟨_, (), rfl, rfl, by rw [ht]; exact hP, va_K.moved hW.alike hK, hD⟩, hS.F ht⟩) hS.2.2 d_HaulFlows_isVolume_19
def f_HaulFlows_isMetre (x0 : Int64) : Int32 :=
  if x0 < 0 then (nI 0) else (if 100000 < x0 then (nI 0) else (nI 1))
set_option maxHeartbeats 4000000 in
set_option maxRecDepth 100000 in
theorem c_HaulFlows_isMetre (l : Launch) (dC : Nat → ClassId) (dI : Nat → Nat → Nat) (cI cJ cZ : ClassId) (sz : Nat) (x0 : Int64) : hh_Ci l y_HaulFlows_isMetre u_HaulFlows_isMetre ({ frames := 0, cells := 0, slots := 0, locals := 0 }) (dC, dI) vwCl [(cI, .int), (cJ, .long), (cZ, .boolean)] (([] : va_W)) sz [.long x0] (f_HaulFlows_isMetre x0) (([] : va_W)) 0 0 := by
  unfold hh_Ci
  refine Met.ofW (cc := b_HaulFlows_isMetre) (maxL := 2) (ret := (some .boolean)) (by decide) rfl ?_
  intro p e s m args below meth c s₁ B hml hv
  obtain ⟨rfl, hsz, hP, hK, hD0⟩ := hv
  have hx := B.exec
  have hb := B.bytes
  have hr := B.returns
  have hts := atoms_spec (ws := u_HaulFlows_isMetre) B.pre
  have hG : ∀ w ∈ wG, w.before ([.long x0]).toArray s = true := fun w h => hts w (List.mem_cons_of_mem _ h)
  have hown : s.vm.findClass R_HaulFlows = some m.cls := findClass_of_methodNamed B.named
  have hlocks := B.notSynchronized
  subst hsz
  have hD := hD0.self (sz := s.heap.size)
  generalize hAe : va_A (([] : va_W)) s.heap.size = A at hD ⊢
  have hA : ∀ q : Nat, s.heap.size ≤ q → A q := fun q h => by rw [← hAe]; exact Or.inr h
  have hS : va_S A s.heap s.heap [] := va_S.rf
  have hl := lv_entry ([.long x0]) (n := 2) (Nat.le_of_ble_eq_true rfl)
  rw [lg_entry_eq]
  generalize (lg_sl ([.long x0]) ++ List.replicate (2 - (lg_sl ([.long x0])).length) Slot.unset).toArray = ls at hl ⊢
  have hl : lv_has ls 2 [(0, .long x0)] := hl
  generalize hR : f_HaulFlows_isMetre x0 = r0
  obtain ⟨H, locs, hHe, hle⟩ : ∃ (H : Heap) (locs : List Loc), s.heap = H ∧ [] = locs := ⟨_, _, rfl, rfl⟩
  have hP : va_P (dC, dI) vwCl (([] : va_W)) H := by rw [← hHe]; exact hP
  have hS : va_S A s.heap H locs := by rw [← hHe, ← hle]; exact hS
  refine hw_start hHe hle ?_
  unfold f_HaulFlows_isMetre at hR
  refine lv_lload_n hx hb d_HaulFlows_isMetre_0 rfl (lv_at hl 0 rfl) ?_
  refine lv_lconst (v := 0) hx hb d_HaulFlows_isMetre_1 (by decide) ?_
  refine hw_lcmp_lt (tgt := 18) hx hb d_HaulFlows_isMetre_2 d_HaulFlows_isMetre_3 (by decide) (fun c2 => ?_) (fun c2 => ?_)
  · replace hR := (if_pos c2).symm.trans hR
    refine lv_iconst (v := nI 0) hx hb d_HaulFlows_isMetre_18 (by decide) ?_
    subst hR
    exact W.zret (v := nI 0) hx hb hr (by decide) (fun t ht hW => ⟨⟨_, (), rfl, rfl, by rw [ht]; exact hP, va_K.moved hW.alike hK, hD⟩, hS.F ht⟩) hS.2.2 d_HaulFlows_isMetre_19
  · replace hR := (if_neg c2).symm.trans hR
    refine lv_lload_n hx hb d_HaulFlows_isMetre_6 rfl (lv_at hl 0 rfl) ?_
    refine lv_ldc2 (v := 100000) hx hb hown (hG _ m_226) d_HaulFlows_isMetre_7 ?_
    refine hw_lcmp_gt (tgt := 18) hx hb d_HaulFlows_isMetre_10 d_HaulFlows_isMetre_11 (by decide) (fun c10 => ?_) (fun c10 => ?_)
    · replace hR := (if_pos c10).symm.trans hR
      refine lv_iconst (v := nI 0) hx hb d_HaulFlows_isMetre_18 (by decide) ?_
      subst hR
      exact W.zret (v := nI 0) hx hb hr (by decide) (fun t ht hW => ⟨⟨_, (), rfl, rfl, by rw [ht]; exact hP, va_K.moved hW.alike hK, hD⟩, hS.F ht⟩) hS.2.2 d_HaulFlows_isMetre_19
    · replace hR := (if_neg c10).symm.trans hR
      refine lv_iconst (v := nI 1) hx hb d_HaulFlows_isMetre_14 (by decide) ?_
      refine lv_goto (tgt := 19) hx hb d_HaulFlows_isMetre_15 (by decide) ?_
      subst hR
      exact W.zret (v := nI 1) hx hb hr (by decide) (fun t ht hW => ⟨⟨_, (), rfl, rfl, by rw [ht]; exact hP, va_K.moved hW.alike hK, hD⟩, hS.F ht⟩) hS.2.2 d_HaulFlows_isMetre_19
def f_HaulFlows_isCents (x0 : Int64) : Int32 :=
  if x0 < 0 then (nI 0) else (if 100000 < x0 then (nI 0) else (nI 1))
set_option maxHeartbeats 4000000 in
set_option maxRecDepth 100000 in
theorem c_HaulFlows_isCents (l : Launch) (dC : Nat → ClassId) (dI : Nat → Nat → Nat) (cI cJ cZ : ClassId) (sz : Nat) (x0 : Int64) : hh_Ci l y_HaulFlows_isCents u_HaulFlows_isCents ({ frames := 0, cells := 0, slots := 0, locals := 0 }) (dC, dI) vwCl [(cI, .int), (cJ, .long), (cZ, .boolean)] (([] : va_W)) sz [.long x0] (f_HaulFlows_isCents x0) (([] : va_W)) 0 0 := by
  unfold hh_Ci
  refine Met.ofW (cc := b_HaulFlows_isCents) (maxL := 2) (ret := (some .boolean)) (by decide) rfl ?_
  intro p e s m args below meth c s₁ B hml hv
  obtain ⟨rfl, hsz, hP, hK, hD0⟩ := hv
  have hx := B.exec
  have hb := B.bytes
  have hr := B.returns
  have hts := atoms_spec (ws := u_HaulFlows_isCents) B.pre
  have hG : ∀ w ∈ wG, w.before ([.long x0]).toArray s = true := fun w h => hts w (List.mem_cons_of_mem _ h)
  have hown : s.vm.findClass R_HaulFlows = some m.cls := findClass_of_methodNamed B.named
  have hlocks := B.notSynchronized
  subst hsz
  have hD := hD0.self (sz := s.heap.size)
  generalize hAe : va_A (([] : va_W)) s.heap.size = A at hD ⊢
  have hA : ∀ q : Nat, s.heap.size ≤ q → A q := fun q h => by rw [← hAe]; exact Or.inr h
  have hS : va_S A s.heap s.heap [] := va_S.rf
  have hl := lv_entry ([.long x0]) (n := 2) (Nat.le_of_ble_eq_true rfl)
  rw [lg_entry_eq]
  generalize (lg_sl ([.long x0]) ++ List.replicate (2 - (lg_sl ([.long x0])).length) Slot.unset).toArray = ls at hl ⊢
  have hl : lv_has ls 2 [(0, .long x0)] := hl
  generalize hR : f_HaulFlows_isCents x0 = r0
  obtain ⟨H, locs, hHe, hle⟩ : ∃ (H : Heap) (locs : List Loc), s.heap = H ∧ [] = locs := ⟨_, _, rfl, rfl⟩
  have hP : va_P (dC, dI) vwCl (([] : va_W)) H := by rw [← hHe]; exact hP
  have hS : va_S A s.heap H locs := by rw [← hHe, ← hle]; exact hS
  refine hw_start hHe hle ?_
  unfold f_HaulFlows_isCents at hR
  refine lv_lload_n hx hb d_HaulFlows_isCents_0 rfl (lv_at hl 0 rfl) ?_
  refine lv_lconst (v := 0) hx hb d_HaulFlows_isCents_1 (by decide) ?_
  refine hw_lcmp_lt (tgt := 18) hx hb d_HaulFlows_isCents_2 d_HaulFlows_isCents_3 (by decide) (fun c2 => ?_) (fun c2 => ?_)
  · replace hR := (if_pos c2).symm.trans hR
    refine lv_iconst (v := nI 0) hx hb d_HaulFlows_isCents_18 (by decide) ?_
    subst hR
    exact W.zret (v := nI 0) hx hb hr (by decide) (fun t ht hW => ⟨⟨_, (), rfl, rfl, by rw [ht]; exact hP, va_K.moved hW.alike hK, hD⟩, hS.F ht⟩) hS.2.2 d_HaulFlows_isCents_19
  · replace hR := (if_neg c2).symm.trans hR
    refine lv_lload_n hx hb d_HaulFlows_isCents_6 rfl (lv_at hl 0 rfl) ?_
    refine lv_ldc2 (v := 100000) hx hb hown (hG _ m_226) d_HaulFlows_isCents_7 ?_
    refine hw_lcmp_gt (tgt := 18) hx hb d_HaulFlows_isCents_10 d_HaulFlows_isCents_11 (by decide) (fun c10 => ?_) (fun c10 => ?_)
    · replace hR := (if_pos c10).symm.trans hR
      refine lv_iconst (v := nI 0) hx hb d_HaulFlows_isCents_18 (by decide) ?_
      subst hR
      exact W.zret (v := nI 0) hx hb hr (by decide) (fun t ht hW => ⟨⟨_, (), rfl, rfl, by rw [ht]; exact hP, va_K.moved hW.alike hK, hD⟩, hS.F ht⟩) hS.2.2 d_HaulFlows_isCents_19
    · replace hR := (if_neg c10).symm.trans hR
      refine lv_iconst (v := nI 1) hx hb d_HaulFlows_isCents_14 (by decide) ?_
      refine lv_goto (tgt := 19) hx hb d_HaulFlows_isCents_15 (by decide) ?_
      subst hR
      exact W.zret (v := nI 1) hx hb hr (by decide) (fun t ht hW => ⟨⟨_, (), rfl, rfl, by rw [ht]; exact hP, va_K.moved hW.alike hK, hD⟩, hS.F ht⟩) hS.2.2 d_HaulFlows_isCents_19
def f_HaulFlows_isSwell (x0 : Int64) : Int32 :=
  if x0 < 1 then (nI 0) else (if 1000 < x0 then (nI 0) else (nI 1))
set_option maxHeartbeats 4000000 in
set_option maxRecDepth 100000 in
theorem c_HaulFlows_isSwell (l : Launch) (dC : Nat → ClassId) (dI : Nat → Nat → Nat) (cI cJ cZ : ClassId) (sz : Nat) (x0 : Int64) : hh_Ci l y_HaulFlows_isSwell u_HaulFlows_isSwell ({ frames := 0, cells := 0, slots := 0, locals := 0 }) (dC, dI) vwCl [(cI, .int), (cJ, .long), (cZ, .boolean)] (([] : va_W)) sz [.long x0] (f_HaulFlows_isSwell x0) (([] : va_W)) 0 0 := by
  unfold hh_Ci
  refine Met.ofW (cc := b_HaulFlows_isSwell) (maxL := 2) (ret := (some .boolean)) (by decide) rfl ?_
  intro p e s m args below meth c s₁ B hml hv
  obtain ⟨rfl, hsz, hP, hK, hD0⟩ := hv
  have hx := B.exec
  have hb := B.bytes
  have hr := B.returns
  have hts := atoms_spec (ws := u_HaulFlows_isSwell) B.pre
  have hG : ∀ w ∈ wG, w.before ([.long x0]).toArray s = true := fun w h => hts w (List.mem_cons_of_mem _ h)
  have hown : s.vm.findClass R_HaulFlows = some m.cls := findClass_of_methodNamed B.named
  have hlocks := B.notSynchronized
  subst hsz
  have hD := hD0.self (sz := s.heap.size)
  generalize hAe : va_A (([] : va_W)) s.heap.size = A at hD ⊢
  have hA : ∀ q : Nat, s.heap.size ≤ q → A q := fun q h => by rw [← hAe]; exact Or.inr h
  have hS : va_S A s.heap s.heap [] := va_S.rf
  have hl := lv_entry ([.long x0]) (n := 2) (Nat.le_of_ble_eq_true rfl)
  rw [lg_entry_eq]
  generalize (lg_sl ([.long x0]) ++ List.replicate (2 - (lg_sl ([.long x0])).length) Slot.unset).toArray = ls at hl ⊢
  have hl : lv_has ls 2 [(0, .long x0)] := hl
  generalize hR : f_HaulFlows_isSwell x0 = r0
  obtain ⟨H, locs, hHe, hle⟩ : ∃ (H : Heap) (locs : List Loc), s.heap = H ∧ [] = locs := ⟨_, _, rfl, rfl⟩
  have hP : va_P (dC, dI) vwCl (([] : va_W)) H := by rw [← hHe]; exact hP
  have hS : va_S A s.heap H locs := by rw [← hHe, ← hle]; exact hS
  refine hw_start hHe hle ?_
  unfold f_HaulFlows_isSwell at hR
  refine lv_lload_n hx hb d_HaulFlows_isSwell_0 rfl (lv_at hl 0 rfl) ?_
  refine lv_lconst (v := 1) hx hb d_HaulFlows_isSwell_1 (by decide) ?_
  refine hw_lcmp_lt (tgt := 18) hx hb d_HaulFlows_isSwell_2 d_HaulFlows_isSwell_3 (by decide) (fun c2 => ?_) (fun c2 => ?_)
  · replace hR := (if_pos c2).symm.trans hR
    refine lv_iconst (v := nI 0) hx hb d_HaulFlows_isSwell_18 (by decide) ?_
    subst hR
    exact W.zret (v := nI 0) hx hb hr (by decide) (fun t ht hW => ⟨⟨_, (), rfl, rfl, by rw [ht]; exact hP, va_K.moved hW.alike hK, hD⟩, hS.F ht⟩) hS.2.2 d_HaulFlows_isSwell_19
  · replace hR := (if_neg c2).symm.trans hR
    refine lv_lload_n hx hb d_HaulFlows_isSwell_6 rfl (lv_at hl 0 rfl) ?_
    refine lv_ldc2 (v := 1000) hx hb hown (hG _ m_246) d_HaulFlows_isSwell_7 ?_
    refine hw_lcmp_gt (tgt := 18) hx hb d_HaulFlows_isSwell_10 d_HaulFlows_isSwell_11 (by decide) (fun c10 => ?_) (fun c10 => ?_)
    · replace hR := (if_pos c10).symm.trans hR
      refine lv_iconst (v := nI 0) hx hb d_HaulFlows_isSwell_18 (by decide) ?_
      subst hR
      exact W.zret (v := nI 0) hx hb hr (by decide) (fun t ht hW => ⟨⟨_, (), rfl, rfl, by rw [ht]; exact hP, va_K.moved hW.alike hK, hD⟩, hS.F ht⟩) hS.2.2 d_HaulFlows_isSwell_19
    · replace hR := (if_neg c10).symm.trans hR
      refine lv_iconst (v := nI 1) hx hb d_HaulFlows_isSwell_14 (by decide) ?_
      refine lv_goto (tgt := 19) hx hb d_HaulFlows_isSwell_15 (by decide) ?_
      subst hR
      exact W.zret (v := nI 1) hx hb hr (by decide) (fun t ht hW => ⟨⟨_, (), rfl, rfl, by rw [ht]; exact hP, va_K.moved hW.alike hK, hD⟩, hS.F ht⟩) hS.2.2 d_HaulFlows_isSwell_19
def f_HaulFlows_partOfChange (x0 : Int64) (x2 : Int32) : Int64 :=
  if x0 = (-1) then (if x2 = (nI 1) then (if 0 = 0 then (0) else (1)) else (if 0 = 0 then (0) else (x0))) else (if x2 = (nI 1) then (if 1 = 0 then (0) else (1)) else (if 1 = 0 then (0) else (x0)))
set_option maxHeartbeats 4000000 in
set_option maxRecDepth 100000 in
theorem c_HaulFlows_partOfChange (l : Launch) (dC : Nat → ClassId) (dI : Nat → Nat → Nat) (cI cJ cZ : ClassId) (sz : Nat) (x0 : Int64) (x2 : Int32) : hh_Cl l y_HaulFlows_partOfChange u_HaulFlows_partOfChange ({ frames := 0, cells := 0, slots := 0, locals := 0 }) (dC, dI) vwCl [(cI, .int), (cJ, .long), (cZ, .boolean)] (([] : va_W)) sz [.long x0, .int x2] (f_HaulFlows_partOfChange x0 x2) (([] : va_W)) 0 0 := by
  unfold hh_Cl
  refine Met.ofW (cc := b_HaulFlows_partOfChange) (maxL := 4) (ret := (some .long)) (by decide) rfl ?_
  intro p e s m args below meth c s₁ B hml hv
  obtain ⟨rfl, hsz, hP, hK, hD0⟩ := hv
  have hx := B.exec
  have hb := B.bytes
  have hr := B.returns
  have hts := atoms_spec (ws := u_HaulFlows_partOfChange) B.pre
  have hG : ∀ w ∈ wG, w.before ([.long x0, .int x2]).toArray s = true := fun w h => hts w (List.mem_cons_of_mem _ h)
  have hown : s.vm.findClass R_HaulFlows = some m.cls := findClass_of_methodNamed B.named
  have hlocks := B.notSynchronized
  subst hsz
  have hD := hD0.self (sz := s.heap.size)
  generalize hAe : va_A (([] : va_W)) s.heap.size = A at hD ⊢
  have hA : ∀ q : Nat, s.heap.size ≤ q → A q := fun q h => by rw [← hAe]; exact Or.inr h
  have hS : va_S A s.heap s.heap [] := va_S.rf
  have hl := lv_entry ([.long x0, .int x2]) (n := 4) (Nat.le_of_ble_eq_true rfl)
  rw [lg_entry_eq]
  generalize (lg_sl ([.long x0, .int x2]) ++ List.replicate (4 - (lg_sl ([.long x0, .int x2])).length) Slot.unset).toArray = ls at hl ⊢
  have hl : lv_has ls 4 [(0, .long x0), (2, .int x2)] := hl
  generalize hR : f_HaulFlows_partOfChange x0 x2 = r0
  obtain ⟨H, locs, hHe, hle⟩ : ∃ (H : Heap) (locs : List Loc), s.heap = H ∧ [] = locs := ⟨_, _, rfl, rfl⟩
  have hP : va_P (dC, dI) vwCl (([] : va_W)) H := by rw [← hHe]; exact hP
  have hS : va_S A s.heap H locs := by rw [← hHe, ← hle]; exact hS
  refine hw_start hHe hle ?_
  unfold f_HaulFlows_partOfChange at hR
  refine lv_lload_n hx hb d_HaulFlows_partOfChange_0 rfl (lv_at hl 0 rfl) ?_
  refine lv_ldc2 (v := (-1)) hx hb hown (hG _ m_295) d_HaulFlows_partOfChange_1 ?_
  refine hw_lcmp_eq (tgt := 12) hx hb d_HaulFlows_partOfChange_4 d_HaulFlows_partOfChange_5 (by decide) (fun c4 => ?_) (fun c4 => ?_)
  · replace hR := (if_pos c4).symm.trans hR
    refine lv_iconst (v := nI 0) hx hb d_HaulFlows_partOfChange_12 (by decide) ?_
    refine lv_istore_n (lv' := [(3, .int (nI 0)), (0, .long x0), (2, .int x2)]) hx hb d_HaulFlows_partOfChange_13 rfl hl (by decide) rfl (fun ls hl => ?_)
    refine lv_iload_n hx hb d_HaulFlows_partOfChange_14 rfl (lv_at hl 2 rfl) ?_
    refine lv_iconst (v := nI 1) hx hb d_HaulFlows_partOfChange_15 (by decide) ?_
    refine lv_icmp_ne (tgt := 29) hx hb d_HaulFlows_partOfChange_16 (by decide) (fun c16 => ?_) (fun c16 => ?_)
    · replace hR := (if_neg c16).symm.trans hR
      refine lv_iload_n hx hb d_HaulFlows_partOfChange_29 rfl (lv_at hl 0 rfl) ?_
      refine hw_if_eq (tgt := 37) hx hb d_HaulFlows_partOfChange_30 (by decide) (by omega) (fun c30 => ?_) (fun c30 => ?_)
      · replace hR := (if_pos c30).symm.trans hR
        refine lv_lconst (v := 0) hx hb d_HaulFlows_partOfChange_37 (by decide) ?_
        subst hR
        exact W.lret (v := 0) hx hb hr (fun t ht hW => ⟨⟨_, (), rfl, rfl, by rw [ht]; exact hP, va_K.moved hW.alike hK, hD⟩, hS.F ht⟩) hS.2.2 d_HaulFlows_partOfChange_38
      · replace hR := (if_neg c30).symm.trans hR
        refine lv_lload_n hx hb d_HaulFlows_partOfChange_33 rfl (lv_at hl 1 rfl) ?_
        refine lv_goto (tgt := 38) hx hb d_HaulFlows_partOfChange_34 (by decide) ?_
        subst hR
        exact W.lret (v := x0) hx hb hr (fun t ht hW => ⟨⟨_, (), rfl, rfl, by rw [ht]; exact hP, va_K.moved hW.alike hK, hD⟩, hS.F ht⟩) hS.2.2 d_HaulFlows_partOfChange_38
    · replace hR := (if_pos c16).symm.trans hR
      refine lv_iload_n hx hb d_HaulFlows_partOfChange_19 rfl (lv_at hl 0 rfl) ?_
      refine hw_if_eq (tgt := 27) hx hb d_HaulFlows_partOfChange_20 (by decide) (by omega) (fun c20 => ?_) (fun c20 => ?_)
      · replace hR := (if_pos c20).symm.trans hR
        refine lv_lconst (v := 0) hx hb d_HaulFlows_partOfChange_27 (by decide) ?_
        subst hR
        exact W.lret (v := 0) hx hb hr (fun t ht hW => ⟨⟨_, (), rfl, rfl, by rw [ht]; exact hP, va_K.moved hW.alike hK, hD⟩, hS.F ht⟩) hS.2.2 d_HaulFlows_partOfChange_28
      · replace hR := (if_neg c20).symm.trans hR
        refine lv_lconst (v := 1) hx hb d_HaulFlows_partOfChange_23 (by decide) ?_
        refine lv_goto (tgt := 28) hx hb d_HaulFlows_partOfChange_24 (by decide) ?_
        subst hR
        exact W.lret (v := 1) hx hb hr (fun t ht hW => ⟨⟨_, (), rfl, rfl, by rw [ht]; exact hP, va_K.moved hW.alike hK, hD⟩, hS.F ht⟩) hS.2.2 d_HaulFlows_partOfChange_28
  · replace hR := (if_neg c4).symm.trans hR
    refine lv_iconst (v := nI 1) hx hb d_HaulFlows_partOfChange_8 (by decide) ?_
    refine lv_goto (tgt := 13) hx hb d_HaulFlows_partOfChange_9 (by decide) ?_
    refine lv_istore_n (lv' := [(3, .int (nI 1)), (0, .long x0), (2, .int x2)]) hx hb d_HaulFlows_partOfChange_13 rfl hl (by decide) rfl (fun ls hl => ?_)
    refine lv_iload_n hx hb d_HaulFlows_partOfChange_14 rfl (lv_at hl 2 rfl) ?_
    refine lv_iconst (v := nI 1) hx hb d_HaulFlows_partOfChange_15 (by decide) ?_
    refine lv_icmp_ne (tgt := 29) hx hb d_HaulFlows_partOfChange_16 (by decide) (fun c16 => ?_) (fun c16 => ?_)
    · replace hR := (if_neg c16).symm.trans hR
      refine lv_iload_n hx hb d_HaulFlows_partOfChange_29 rfl (lv_at hl 0 rfl) ?_
      refine hw_if_eq (tgt := 37) hx hb d_HaulFlows_partOfChange_30 (by decide) (by omega) (fun c30 => ?_) (fun c30 => ?_)
      · replace hR := (if_pos c30).symm.trans hR
        refine lv_lconst (v := 0) hx hb d_HaulFlows_partOfChange_37 (by decide) ?_
        subst hR
        exact W.lret (v := 0) hx hb hr (fun t ht hW => ⟨⟨_, (), rfl, rfl, by rw [ht]; exact hP, va_K.moved hW.alike hK, hD⟩, hS.F ht⟩) hS.2.2 d_HaulFlows_partOfChange_38
      · replace hR := (if_neg c30).symm.trans hR
        refine lv_lload_n hx hb d_HaulFlows_partOfChange_33 rfl (lv_at hl 1 rfl) ?_
        refine lv_goto (tgt := 38) hx hb d_HaulFlows_partOfChange_34 (by decide) ?_
        subst hR
        exact W.lret (v := x0) hx hb hr (fun t ht hW => ⟨⟨_, (), rfl, rfl, by rw [ht]; exact hP, va_K.moved hW.alike hK, hD⟩, hS.F ht⟩) hS.2.2 d_HaulFlows_partOfChange_38
    · replace hR := (if_pos c16).symm.trans hR
      refine lv_iload_n hx hb d_HaulFlows_partOfChange_19 rfl (lv_at hl 0 rfl) ?_
      refine hw_if_eq (tgt := 27) hx hb d_HaulFlows_partOfChange_20 (by decide) (by omega) (fun c20 => ?_) (fun c20 => ?_)
      · replace hR := (if_pos c20).symm.trans hR
        refine lv_lconst (v := 0) hx hb d_HaulFlows_partOfChange_27 (by decide) ?_
        subst hR
        exact W.lret (v := 0) hx hb hr (fun t ht hW => ⟨⟨_, (), rfl, rfl, by rw [ht]; exact hP, va_K.moved hW.alike hK, hD⟩, hS.F ht⟩) hS.2.2 d_HaulFlows_partOfChange_28
      · replace hR := (if_neg c20).symm.trans hR
        refine lv_lconst (v := 1) hx hb d_HaulFlows_partOfChange_23 (by decide) ?_
        refine lv_goto (tgt := 28) hx hb d_HaulFlows_partOfChange_24 (by decide) ?_
        subst hR
        exact W.lret (v := 1) hx hb hr (fun t ht hW => ⟨⟨_, (), rfl, rfl, by rw [ht]; exact hP, va_K.moved hW.alike hK, hD⟩, hS.F ht⟩) hS.2.2 d_HaulFlows_partOfChange_28
