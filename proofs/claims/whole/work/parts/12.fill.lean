abbrev b_Arrays_fillJ : ByteArray := prog_14_method_101_code
def y_Arrays_fillJ : MethodName := ⟨R_Arrays, "fill", "([JJ)V"⟩
def u_Arrays_fillJ : List Cond := Cond.code y_Arrays_fillJ b_Arrays_fillJ 5 none :: wG
theorem d_Arrays_fillJ_0 : decode b_Arrays_fillJ 0 = .ok (.iconst 0, 1) := by decide +kernel
theorem d_Arrays_fillJ_1 : decode b_Arrays_fillJ 1 = .ok (.istore_n 3, 1) := by decide +kernel
theorem d_Arrays_fillJ_2 : decode b_Arrays_fillJ 2 = .ok (.aload_n 0, 1) := by decide +kernel
theorem d_Arrays_fillJ_3 : decode b_Arrays_fillJ 3 = .ok (.arraylength, 1) := by decide +kernel
theorem d_Arrays_fillJ_4 : decode b_Arrays_fillJ 4 = .ok (.istore 4, 2) := by decide +kernel
theorem d_Arrays_fillJ_6 : decode b_Arrays_fillJ 6 = .ok (.iload_n 3, 1) := by decide +kernel
theorem d_Arrays_fillJ_7 : decode b_Arrays_fillJ 7 = .ok (.iload 4, 2) := by decide +kernel
theorem d_Arrays_fillJ_9 : decode b_Arrays_fillJ 9 = .ok (.if_icmp .ge 13, 3) := by decide +kernel
theorem d_Arrays_fillJ_12 : decode b_Arrays_fillJ 12 = .ok (.aload_n 0, 1) := by decide +kernel
theorem d_Arrays_fillJ_13 : decode b_Arrays_fillJ 13 = .ok (.iload_n 3, 1) := by decide +kernel
theorem d_Arrays_fillJ_14 : decode b_Arrays_fillJ 14 = .ok (.lload_n 1, 1) := by decide +kernel
theorem d_Arrays_fillJ_15 : decode b_Arrays_fillJ 15 = .ok (.lastore, 1) := by decide +kernel
theorem d_Arrays_fillJ_16 : decode b_Arrays_fillJ 16 = .ok (.iinc 3 1, 3) := by decide +kernel
theorem d_Arrays_fillJ_19 : decode b_Arrays_fillJ 19 = .ok (.goto (-13), 3) := by decide +kernel
theorem d_Arrays_fillJ_22 : decode b_Arrays_fillJ 22 = .ok (.return_, 1) := by decide +kernel
abbrev b_Arrays_fillI : ByteArray := prog_14_method_103_code
def y_Arrays_fillI : MethodName := ⟨R_Arrays, "fill", "([II)V"⟩
def u_Arrays_fillI : List Cond := Cond.code y_Arrays_fillI b_Arrays_fillI 4 none :: wG
theorem d_Arrays_fillI_0 : decode b_Arrays_fillI 0 = .ok (.iconst 0, 1) := by decide +kernel
theorem d_Arrays_fillI_1 : decode b_Arrays_fillI 1 = .ok (.istore_n 2, 1) := by decide +kernel
theorem d_Arrays_fillI_2 : decode b_Arrays_fillI 2 = .ok (.aload_n 0, 1) := by decide +kernel
theorem d_Arrays_fillI_3 : decode b_Arrays_fillI 3 = .ok (.arraylength, 1) := by decide +kernel
theorem d_Arrays_fillI_4 : decode b_Arrays_fillI 4 = .ok (.istore_n 3, 1) := by decide +kernel
theorem d_Arrays_fillI_5 : decode b_Arrays_fillI 5 = .ok (.iload_n 2, 1) := by decide +kernel
theorem d_Arrays_fillI_6 : decode b_Arrays_fillI 6 = .ok (.iload_n 3, 1) := by decide +kernel
theorem d_Arrays_fillI_7 : decode b_Arrays_fillI 7 = .ok (.if_icmp .ge 13, 3) := by decide +kernel
theorem d_Arrays_fillI_10 : decode b_Arrays_fillI 10 = .ok (.aload_n 0, 1) := by decide +kernel
theorem d_Arrays_fillI_11 : decode b_Arrays_fillI 11 = .ok (.iload_n 2, 1) := by decide +kernel
theorem d_Arrays_fillI_12 : decode b_Arrays_fillI 12 = .ok (.iload_n 1, 1) := by decide +kernel
theorem d_Arrays_fillI_13 : decode b_Arrays_fillI 13 = .ok (.iastore, 1) := by decide +kernel
theorem d_Arrays_fillI_14 : decode b_Arrays_fillI 14 = .ok (.iinc 2 1, 3) := by decide +kernel
theorem d_Arrays_fillI_17 : decode b_Arrays_fillI 17 = .ok (.goto (-12), 3) := by decide +kernel
theorem d_Arrays_fillI_20 : decode b_Arrays_fillI 20 = .ok (.return_, 1) := by decide +kernel
def hh_fillJ (n : Nat) (f : Nat → Int64) (v : Int64) : Nat → Int64 := fun j => if j < n then v else f j
theorem hh_fillJ_0 (f : Nat → Int64) (v : Int64) : hh_fillJ 0 f v = f := by
  funext j
  unfold hh_fillJ
  rw [if_neg (Nat.not_lt_zero j)]
theorem hh_fillJ_s (i : Nat) (f : Nat → Int64) (v : Int64) : vp_updL (hh_fillJ i f v) i v = hh_fillJ (i + 1) f v := by
  funext j
  unfold hh_fillJ vp_updL
  by_cases h : j = i
  · subst h
    rw [if_pos (Nat.lt_succ_self j)]
    simp
  · by_cases h2 : j < i
    · rw [if_pos (Nat.lt_succ_of_lt h2)]
      simp [h, h2]
    · rw [if_neg (show ¬ j < i + 1 by omega)]
      simp [h, h2]
set_option maxHeartbeats 4000000 in
set_option maxRecDepth 100000 in
theorem c_Arrays_fillJ (l : Launch) (dC : Nat → ClassId) (dI : Nat → Nat → Nat) (cI cJ cZ : ClassId) (sz a0 n : Nat) (hn : n < 2 ^ 31) (f : Nat → Int64) (v : Int64) : hh_Cv l y_Arrays_fillJ u_Arrays_fillJ ({ frames := 0, cells := 0, slots := 0, locals := 0 }) (dC, dI) vwCl [(cI, .int), (cJ, .long), (cZ, .boolean)] [(a0, .inl (cJ, n, .inr (.inl f)))] sz [.ref a0, .long v] [(a0, .inl (cJ, n, .inr (.inl (hh_fillJ n f v))))] 0 0 := by
  unfold hh_Cv
  refine Met.ofW (cc := b_Arrays_fillJ) (maxL := 5) (ret := none) (by decide) rfl ?_
  intro p e s m args below meth c s₁ B hml hv
  obtain ⟨rfl, hsz, hP, hK, hD0⟩ := hv
  have hx := B.exec
  have hb := B.bytes
  have hr := B.returns
  have hlocks := B.notSynchronized
  subst hsz
  have hD := hD0.self (sz := s.heap.size)
  generalize hAe : va_A [(a0, .inl (cJ, n, .inr (.inl f)))] s.heap.size = A at hD ⊢
  have hS : va_S A s.heap s.heap [] := va_S.rf
  have hl := lv_entry ([.ref a0, .long v]) (n := 5) (Nat.le_of_ble_eq_true rfl)
  rw [lg_entry_eq]
  generalize (lg_sl ([.ref a0, .long v]) ++ List.replicate (5 - (lg_sl ([.ref a0, .long v])).length) Slot.unset).toArray = ls at hl ⊢
  have hl : lv_has ls 5 [(0, .ref a0), (1, .long v)] := hl
  have L : ∀ (k i : Nat), i ≤ n → n - i < k → ∀ (H : Heap) (locs : List Loc) (ls : Array Slot), va_P (dC, dI) vwCl [(a0, .inl (cJ, n, .inr (.inl (hh_fillJ i f v))))] H → va_D A [(a0, .inl (cJ, n, .inr (.inl (hh_fillJ i f v))))] → va_S A s.heap H locs → lv_has ls 5 [(3, .int (nI i)), (0, .ref a0), (1, .long v), (4, .int (nI n))] →
      W p l e (headSpec u_Arrays_fillJ ({ frames := 0, cells := 0, slots := 0, locals := 0 })).room s m [.ref a0, .long v].toArray below meth c H locs 0 0 (hh_Zv below (dC, dI) vwCl [(cI, .int), (cJ, .long), (cZ, .boolean)] A [(a0, .inl (cJ, n, .inr (.inl (hh_fillJ n f v))))] [.ref a0, .long v].toArray s) (F0 m 6 ls []) := by
    intro k
    induction k with
    | zero =>
      intro i h1 h2
      exact absurd h2 (Nat.not_lt_zero _)
    | succ k ih =>
      intro i h1 h2 H locs ls hP hD hS hl
      refine lv_iload_n hx hb d_Arrays_fillJ_6 rfl (lv_at hl 0 rfl) ?_
      refine lv_iload hx hb d_Arrays_fillJ_7 (lv_at hl 3 rfl) ?_
      refine hw_icmp_ge (tgt := 22) hx hb d_Arrays_fillJ_9 (by decide) (by omega) (by omega) (fun c1 => ?_) (fun c1 => ?_)
      · obtain rfl : i = n := by omega
        exact W.vret hx hb hr (fun t ht hW => ⟨⟨(), rfl, trivial, by rw [ht]; exact hP, va_K.moved hW.alike hK, hD⟩, hS.F ht⟩) hS.2.2 d_Arrays_fillJ_22
      · refine lv_aload_n hx hb d_Arrays_fillJ_12 rfl (lv_at hl 1 rfl) ?_
        refine lv_iload_n hx hb d_Arrays_fillJ_13 rfl (lv_at hl 0 rfl) ?_
        refine lv_lload_n hx hb d_Arrays_fillJ_14 rfl (lv_at hl 2 rfl) ?_
        refine hw_last (f := hh_fillJ i f v) hx hb hK hP hD hS 0 1 rfl rfl hn (by omega) d_Arrays_fillJ_15 (fun H locs hP hD hS => ?_)
        rw [hh_fillJ_s] at hP hD
        refine lv_iinc (v := nI (i + 1)) (lv' := [(3, .int (nI (i + 1))), (0, .ref a0), (1, .long v), (4, .int (nI n))]) hx hb d_Arrays_fillJ_16 hl (k := 0) rfl (hw_inc _ 1) (by decide) rfl (fun ls hl => ?_)
        refine lv_goto (tgt := 6) hx hb d_Arrays_fillJ_19 (by decide) ?_
        exact ih (i + 1) (by omega) (by omega) H locs ls hP hD hS hl
  refine lv_iconst (v := nI 0) hx hb d_Arrays_fillJ_0 (by decide) ?_
  refine lv_istore_n (lv' := [(3, .int (nI 0)), (0, .ref a0), (1, .long v)]) hx hb d_Arrays_fillJ_1 rfl hl (by decide) rfl (fun ls hl => ?_)
  refine lv_aload_n hx hb d_Arrays_fillJ_2 rfl (lv_at hl 1 rfl) ?_
  refine va_alen (x := (n, .inr (.inl f))) hx hb hK hP 0 1 rfl rfl (v := nI n) rfl d_Arrays_fillJ_3 ?_
  refine lv_istore (lv' := [(4, .int (nI n)), (3, .int (nI 0)), (0, .ref a0), (1, .long v)]) hx hb d_Arrays_fillJ_4 hl (by decide) rfl (fun ls hl => ?_)
  refine L (n + 1) 0 (Nat.zero_le _) (by omega) s.heap [] ls ?_ ?_ hS (lv_sub hl [1, 2, 3, 0] rfl)
  · rw [hh_fillJ_0]; exact hP
  · rw [hh_fillJ_0]; exact hD
def hh_fillI (n : Nat) (f : Nat → Int32) (v : Int32) : Nat → Int32 := fun j => if j < n then v else f j
theorem hh_fillI_0 (f : Nat → Int32) (v : Int32) : hh_fillI 0 f v = f := by
  funext j
  unfold hh_fillI
  rw [if_neg (Nat.not_lt_zero j)]
theorem hh_fillI_s (i : Nat) (f : Nat → Int32) (v : Int32) : upd (hh_fillI i f v) i v = hh_fillI (i + 1) f v := by
  funext j
  unfold hh_fillI upd
  by_cases h : j = i
  · subst h
    rw [if_pos (Nat.lt_succ_self j)]
    simp
  · by_cases h2 : j < i
    · rw [if_pos (Nat.lt_succ_of_lt h2)]
      simp [h, h2]
    · rw [if_neg (show ¬ j < i + 1 by omega)]
      simp [h, h2]
set_option maxHeartbeats 4000000 in
set_option maxRecDepth 100000 in
theorem c_Arrays_fillI (l : Launch) (dC : Nat → ClassId) (dI : Nat → Nat → Nat) (cI cJ cZ : ClassId) (sz a0 n : Nat) (hn : n < 2 ^ 31) (f : Nat → Int32) (v : Int32) : hh_Cv l y_Arrays_fillI u_Arrays_fillI ({ frames := 0, cells := 0, slots := 0, locals := 0 }) (dC, dI) vwCl [(cI, .int), (cJ, .long), (cZ, .boolean)] [(a0, .inl (cI, n, .inl f))] sz [.ref a0, .int v] [(a0, .inl (cI, n, .inl (hh_fillI n f v)))] 0 0 := by
  unfold hh_Cv
  refine Met.ofW (cc := b_Arrays_fillI) (maxL := 4) (ret := none) (by decide) rfl ?_
  intro p e s m args below meth c s₁ B hml hv
  obtain ⟨rfl, hsz, hP, hK, hD0⟩ := hv
  have hx := B.exec
  have hb := B.bytes
  have hr := B.returns
  have hlocks := B.notSynchronized
  subst hsz
  have hD := hD0.self (sz := s.heap.size)
  generalize hAe : va_A [(a0, .inl (cI, n, .inl f))] s.heap.size = A at hD ⊢
  have hS : va_S A s.heap s.heap [] := va_S.rf
  have hl := lv_entry ([.ref a0, .int v]) (n := 4) (Nat.le_of_ble_eq_true rfl)
  rw [lg_entry_eq]
  generalize (lg_sl ([.ref a0, .int v]) ++ List.replicate (4 - (lg_sl ([.ref a0, .int v])).length) Slot.unset).toArray = ls at hl ⊢
  have hl : lv_has ls 4 [(0, .ref a0), (1, .int v)] := hl
  have L : ∀ (k i : Nat), i ≤ n → n - i < k → ∀ (H : Heap) (locs : List Loc) (ls : Array Slot), va_P (dC, dI) vwCl [(a0, .inl (cI, n, .inl (hh_fillI i f v)))] H → va_D A [(a0, .inl (cI, n, .inl (hh_fillI i f v)))] → va_S A s.heap H locs → lv_has ls 4 [(2, .int (nI i)), (0, .ref a0), (1, .int v), (3, .int (nI n))] →
      W p l e (headSpec u_Arrays_fillI ({ frames := 0, cells := 0, slots := 0, locals := 0 })).room s m [.ref a0, .int v].toArray below meth c H locs 0 0 (hh_Zv below (dC, dI) vwCl [(cI, .int), (cJ, .long), (cZ, .boolean)] A [(a0, .inl (cI, n, .inl (hh_fillI n f v)))] [.ref a0, .int v].toArray s) (F0 m 5 ls []) := by
    intro k
    induction k with
    | zero =>
      intro i h1 h2
      exact absurd h2 (Nat.not_lt_zero _)
    | succ k ih =>
      intro i h1 h2 H locs ls hP hD hS hl
      refine lv_iload_n hx hb d_Arrays_fillI_5 rfl (lv_at hl 0 rfl) ?_
      refine lv_iload_n hx hb d_Arrays_fillI_6 rfl (lv_at hl 3 rfl) ?_
      refine hw_icmp_ge (tgt := 20) hx hb d_Arrays_fillI_7 (by decide) (by omega) (by omega) (fun c1 => ?_) (fun c1 => ?_)
      · obtain rfl : i = n := by omega
        exact W.vret hx hb hr (fun t ht hW => ⟨⟨(), rfl, trivial, by rw [ht]; exact hP, va_K.moved hW.alike hK, hD⟩, hS.F ht⟩) hS.2.2 d_Arrays_fillI_20
      · refine lv_aload_n hx hb d_Arrays_fillI_10 rfl (lv_at hl 1 rfl) ?_
        refine lv_iload_n hx hb d_Arrays_fillI_11 rfl (lv_at hl 0 rfl) ?_
        refine lv_iload_n hx hb d_Arrays_fillI_12 rfl (lv_at hl 2 rfl) ?_
        refine hw_iast (f := hh_fillI i f v) hx hb hK hP hD hS 0 0 rfl rfl hn (by omega) d_Arrays_fillI_13 (fun H locs hP hD hS => ?_)
        rw [hh_fillI_s] at hP hD
        refine lv_iinc (v := nI (i + 1)) (lv' := [(2, .int (nI (i + 1))), (0, .ref a0), (1, .int v), (3, .int (nI n))]) hx hb d_Arrays_fillI_14 hl (k := 0) rfl (hw_inc _ 1) (by decide) rfl (fun ls hl => ?_)
        refine lv_goto (tgt := 5) hx hb d_Arrays_fillI_17 (by decide) ?_
        exact ih (i + 1) (by omega) (by omega) H locs ls hP hD hS hl
  refine lv_iconst (v := nI 0) hx hb d_Arrays_fillI_0 (by decide) ?_
  refine lv_istore_n (lv' := [(2, .int (nI 0)), (0, .ref a0), (1, .int v)]) hx hb d_Arrays_fillI_1 rfl hl (by decide) rfl (fun ls hl => ?_)
  refine lv_aload_n hx hb d_Arrays_fillI_2 rfl (lv_at hl 1 rfl) ?_
  refine va_alen (x := (n, .inl f)) hx hb hK hP 0 0 rfl rfl (v := nI n) rfl d_Arrays_fillI_3 ?_
  refine lv_istore_n (lv' := [(3, .int (nI n)), (2, .int (nI 0)), (0, .ref a0), (1, .int v)]) hx hb d_Arrays_fillI_4 rfl hl (by decide) rfl (fun ls hl => ?_)
  refine L (n + 1) 0 (Nat.zero_le _) (by omega) s.heap [] ls ?_ ?_ hS (lv_sub hl [1, 2, 3, 0] rfl)
  · rw [hh_fillI_0]; exact hP
  · rw [hh_fillI_0]; exact hD
