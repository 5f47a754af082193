abbrev b_Shortage_find : ByteArray := prog_3_method_2_code
def y_Shortage_find : MethodName := ⟨R_Shortage, "find", "()V"⟩
def u_Shortage_find : List Cond := Cond.code y_Shortage_find b_Shortage_find 2 none :: wG
theorem d_Shortage_find_0 : decode b_Shortage_find 0 = .ok (.aload_n 0, 1) := by decide +kernel
theorem d_Shortage_find_1 : decode b_Shortage_find 1 = .ok (.invokevirtual 29, 3) := by decide +kernel
theorem d_Shortage_find_4 : decode b_Shortage_find 4 = .ok (.iconst 0, 1) := by decide +kernel
theorem d_Shortage_find_5 : decode b_Shortage_find 5 = .ok (.istore_n 1, 1) := by decide +kernel
theorem d_Shortage_find_6 : decode b_Shortage_find 6 = .ok (.iload_n 1, 1) := by decide +kernel
theorem d_Shortage_find_7 : decode b_Shortage_find 7 = .ok (.ldc 32, 2) := by decide +kernel
theorem d_Shortage_find_9 : decode b_Shortage_find 9 = .ok (.if_icmp .ge 24, 3) := by decide +kernel
theorem d_Shortage_find_12 : decode b_Shortage_find 12 = .ok (.aload_n 0, 1) := by decide +kernel
theorem d_Shortage_find_13 : decode b_Shortage_find 13 = .ok (.bipush 32, 2) := by decide +kernel
theorem d_Shortage_find_15 : decode b_Shortage_find 15 = .ok (.bipush 33, 2) := by decide +kernel
theorem d_Shortage_find_17 : decode b_Shortage_find 17 = .ok (.invokevirtual 33, 3) := by decide +kernel
theorem d_Shortage_find_20 : decode b_Shortage_find 20 = .ok (.ifCond .eq 13, 3) := by decide +kernel
theorem d_Shortage_find_23 : decode b_Shortage_find 23 = .ok (.aload_n 0, 1) := by decide +kernel
theorem d_Shortage_find_24 : decode b_Shortage_find 24 = .ok (.invokevirtual 37, 3) := by decide +kernel
theorem d_Shortage_find_27 : decode b_Shortage_find 27 = .ok (.iinc 1 1, 3) := by decide +kernel
theorem d_Shortage_find_30 : decode b_Shortage_find 30 = .ok (.goto (-24), 3) := by decide +kernel
theorem d_Shortage_find_33 : decode b_Shortage_find 33 = .ok (.aload_n 0, 1) := by decide +kernel
theorem d_Shortage_find_34 : decode b_Shortage_find 34 = .ok (.iconst 0, 1) := by decide +kernel
theorem d_Shortage_find_35 : decode b_Shortage_find 35 = .ok (.putfield 40, 3) := by decide +kernel
theorem d_Shortage_find_38 : decode b_Shortage_find 38 = .ok (.iconst 0, 1) := by decide +kernel
theorem d_Shortage_find_39 : decode b_Shortage_find 39 = .ok (.istore_n 1, 1) := by decide +kernel
theorem d_Shortage_find_40 : decode b_Shortage_find 40 = .ok (.iload_n 1, 1) := by decide +kernel
theorem d_Shortage_find_41 : decode b_Shortage_find 41 = .ok (.aload_n 0, 1) := by decide +kernel
theorem d_Shortage_find_42 : decode b_Shortage_find 42 = .ok (.getfield 25, 3) := by decide +kernel
theorem d_Shortage_find_45 : decode b_Shortage_find 45 = .ok (.getfield 44, 3) := by decide +kernel
theorem d_Shortage_find_48 : decode b_Shortage_find 48 = .ok (.if_icmp .ge 52, 3) := by decide +kernel
theorem d_Shortage_find_51 : decode b_Shortage_find 51 = .ok (.aload_n 0, 1) := by decide +kernel
theorem d_Shortage_find_52 : decode b_Shortage_find 52 = .ok (.bipush 12, 2) := by decide +kernel
theorem d_Shortage_find_54 : decode b_Shortage_find 54 = .ok (.iload_n 1, 1) := by decide +kernel
theorem d_Shortage_find_55 : decode b_Shortage_find 55 = .ok (.iadd, 1) := by decide +kernel
theorem d_Shortage_find_56 : decode b_Shortage_find 56 = .ok (.bipush 20, 2) := by decide +kernel
theorem d_Shortage_find_58 : decode b_Shortage_find 58 = .ok (.aload_n 0, 1) := by decide +kernel
theorem d_Shortage_find_59 : decode b_Shortage_find 59 = .ok (.getfield 25, 3) := by decide +kernel
theorem d_Shortage_find_62 : decode b_Shortage_find 62 = .ok (.getfield 49, 3) := by decide +kernel
theorem d_Shortage_find_65 : decode b_Shortage_find 65 = .ok (.iload_n 1, 1) := by decide +kernel
theorem d_Shortage_find_66 : decode b_Shortage_find 66 = .ok (.iaload, 1) := by decide +kernel
theorem d_Shortage_find_67 : decode b_Shortage_find 67 = .ok (.iadd, 1) := by decide +kernel
theorem d_Shortage_find_68 : decode b_Shortage_find 68 = .ok (.invokevirtual 33, 3) := by decide +kernel
theorem d_Shortage_find_71 : decode b_Shortage_find 71 = .ok (.ifCond .eq 23, 3) := by decide +kernel
theorem d_Shortage_find_74 : decode b_Shortage_find 74 = .ok (.aload_n 0, 1) := by decide +kernel
theorem d_Shortage_find_75 : decode b_Shortage_find 75 = .ok (.getfield 11, 3) := by decide +kernel
theorem d_Shortage_find_78 : decode b_Shortage_find 78 = .ok (.aload_n 0, 1) := by decide +kernel
theorem d_Shortage_find_79 : decode b_Shortage_find 79 = .ok (.getfield 40, 3) := by decide +kernel
theorem d_Shortage_find_82 : decode b_Shortage_find 82 = .ok (.iload_n 1, 1) := by decide +kernel
theorem d_Shortage_find_83 : decode b_Shortage_find 83 = .ok (.iastore, 1) := by decide +kernel
theorem d_Shortage_find_84 : decode b_Shortage_find 84 = .ok (.aload_n 0, 1) := by decide +kernel
theorem d_Shortage_find_85 : decode b_Shortage_find 85 = .ok (.dup, 1) := by decide +kernel
theorem d_Shortage_find_86 : decode b_Shortage_find 86 = .ok (.getfield 40, 3) := by decide +kernel
theorem d_Shortage_find_89 : decode b_Shortage_find 89 = .ok (.iconst 1, 1) := by decide +kernel
theorem d_Shortage_find_90 : decode b_Shortage_find 90 = .ok (.iadd, 1) := by decide +kernel
theorem d_Shortage_find_91 : decode b_Shortage_find 91 = .ok (.putfield 40, 3) := by decide +kernel
theorem d_Shortage_find_94 : decode b_Shortage_find 94 = .ok (.iinc 1 1, 3) := by decide +kernel
theorem d_Shortage_find_97 : decode b_Shortage_find 97 = .ok (.goto (-57), 3) := by decide +kernel
theorem d_Shortage_find_100 : decode b_Shortage_find 100 = .ok (.return_, 1) := by decide +kernel
/-- who has been seen hangs on the start -/
def hp_tb (st q : Nat) (qu : Nat → Nat) (bef : Nat → Int32) : Prop := (∀ i, qu i < 34) ∧ (∀ i, i < q → bef (qu i) ≠ -1) ∧ ∀ v, v < 34 → bef v ≠ -1 → v = st ∨ ∃ u, u < 34 ∧ bef v = nI u ∧ bef u ≠ -1
theorem hp_tb_add {st q : Nat} {qu : Nat → Nat} {bef : Nat → Int32} {x4 x6 : Nat} (h : hp_tb st q qu bef) (h4 : x4 < q) (h6 : x6 < 34) (hb : bef x6 = -1) : hp_tb st (q + 1) (va_up qu q x6) (upd bef x6 (nI (qu x4))) := by
  obtain ⟨h1, h2, h3⟩ := h
  have h1x := h1 x4
  have hm : nI (qu x4) ≠ -1 := hp_m1 (by omega)
  have mono : ∀ v, bef v ≠ -1 → upd bef x6 (nI (qu x4)) v ≠ -1 := by
    intro v hv
    by_cases e : v = x6
    · subst e
      rw [pk_us]
      exact hm
    · rw [pk_un e]
      exact hv
  refine ⟨hw_upb h1 h6, ?_, ?_⟩
  · intro i hi
    by_cases e : i = q
    · subst e
      rw [va_up_self, pk_us]
      exact hm
    · rw [va_up_ne _ _ e]
      exact mono _ (h2 i (by omega))
  · intro v hv hbv
    by_cases e : v = x6
    · subst e
      exact Or.inr ⟨qu x4, h1x, pk_us, mono _ (h2 x4 h4)⟩
    · rw [pk_un e] at hbv
      rcases h3 v hv hbv with e2 | ⟨u, hu, e2, hb2⟩
      · exact Or.inl e2
      · exact Or.inr ⟨u, hu, by rw [pk_un e]; exact e2, mono u hb2⟩
theorem hp_t65 {st : Nat} {LT0 : Nat → Int64} {N27 : Nat → Nat} {x4 : Nat} {Post : Int32 × (Nat → Int32) × (Nat → Nat) → Prop} {k : Nat → Nat → (Nat → Int32) → (Nat → Nat) → Int32 × (Nat → Int32) × (Nat → Nat)} (hk : ∀ x3 x6 bef qu, hp_tb st x3 qu bef → Post (k x3 x6 bef qu)) :
    ∀ (n x3 x6 : Nat) (bef : Nat → Int32) (qu : Nat → Nat), hp_tb st x3 qu bef → x4 < x3 → Post (f_Shortage_canReach_h65 LT0 N27 x4 k n x3 x6 bef qu) := by
  intro n
  induction n with
  | zero => exact fun x3 x6 bef qu h _ => hk _ _ _ _ h
  | succ n ih =>
    intro x3 x6 bef qu h h4
    rw [f_Shortage_canReach_h65]
    unfold f_Shortage_canReach_h65B
    by_cases c1 : 34 ≤ x6
    · rw [if_pos c1]
      exact hk _ _ _ _ h
    · rw [if_neg c1]
      by_cases c2 : LT0 (N27 x4 * 34 + x6) ≤ 0
      · rw [if_pos c2]
        exact ih _ _ _ _ h h4
      · rw [if_neg c2]
        by_cases c3 : bef x6 = -1
        · rw [if_pos c3]
          by_cases c4 : 34 ≤ x3
          · rw [if_pos c4]
            exact ih _ _ _ _ h h4
          · rw [if_neg c4]
            exact ih _ _ _ _ (hp_tb_add h h4 (by omega) c3) (by omega)
        · rw [if_neg c3]
          exact ih _ _ _ _ h h4
theorem hp_t27 {st x2 : Nat} {LT0 : Nat → Int64} {Post : Int32 × (Nat → Int32) × (Nat → Nat) → Prop} {k : Nat → Nat → (Nat → Int32) → (Nat → Nat) → Int32 × (Nat → Int32) × (Nat → Nat)} (hk : ∀ x3 x4 bef qu, hp_tb st x3 qu bef → Post (k x3 x4 bef qu)) :
    ∀ (n x3 x4 : Nat) (bef : Nat → Int32) (qu : Nat → Nat), hp_tb st x3 qu bef → Post (f_Shortage_canReach_h27 x2 LT0 k n x3 x4 bef qu) := by
  intro n
  induction n with
  | zero => exact fun x3 x4 bef qu h => hk _ _ _ _ h
  | succ n ih =>
    intro x3 x4 bef qu h
    rw [f_Shortage_canReach_h27]
    unfold f_Shortage_canReach_h27B
    by_cases c1 : x3 ≤ x4
    · rw [if_pos c1]
      exact hk _ _ _ _ h
    · rw [if_neg c1]
      by_cases c2 : 34 ≤ x4
      · rw [if_pos c2]
        exact hk _ _ _ _ h
      · rw [if_neg c2]
        by_cases c3 : bef x2 = -1
        · rw [if_pos c3]
          refine hp_t65 (st := st) (fun x3 x6 bef qu h => ?_) 35 x3 0 bef qu h (by omega)
          unfold f_Shortage_canReach_x65
          exact ih _ _ _ _ h
        · rw [if_neg c3]
          exact hk _ _ _ _ h
theorem f_Shortage_canReach_in {NT1 : Nat → Nat} (LT0 : Nat → Int64) (IT0 : Nat → Int32) (x1 x2 : Nat) (h : ∀ i, NT1 i < 34) (hx : x1 < 34) : (∃ q, hp_tb x1 q (f_Shortage_canReach NT1 LT0 IT0 x1 x2).2.2 (f_Shortage_canReach NT1 LT0 IT0 x1 x2).2.1) ∧ ((f_Shortage_canReach NT1 LT0 IT0 x1 x2).1 = 0 ∨ (f_Shortage_canReach NT1 LT0 IT0 x1 x2).2.1 x2 ≠ -1) := by
  unfold f_Shortage_canReach
  refine hp_t27 (st := x1) (Post := fun r => (∃ q, hp_tb x1 q r.2.2 r.2.1) ∧ (r.1 = 0 ∨ r.2.1 x2 ≠ -1)) (fun x3 x4 bef qu h => ?_) 35 1 0 _ _ ?_
  · unfold f_Shortage_canReach_x27
    by_cases c : bef x2 = -1
    · rw [if_pos c]
      exact ⟨⟨_, h⟩, Or.inl nI_0⟩
    · rw [if_neg c]
      exact ⟨⟨_, h⟩, Or.inr c⟩
  · refine ⟨hw_upb h hx, ?_, ?_⟩
    · intro i hi
      obtain rfl : i = 0 := by omega
      rw [va_up_self, pk_us]
      exact hp_m1 (by omega)
    · intro v hv hb
      by_cases e : v = x1
      · exact Or.inl e
      · rw [pk_un e] at hb
        unfold hh_fillI at hb
        rw [if_pos hv] at hb
        exact absurd rfl hb
theorem hp_tb_ring {q : Nat} {qu : Nat → Nat} {bef : Nat → Int32} (h : hp_tb 32 q qu bef) : ∀ v, (v < 34 ∧ bef v ≠ -1) → v < 34 ∧ (v = 32 ∨ ∃ u0, bef v = nI u0 ∧ (u0 < 34 ∧ bef u0 ≠ -1)) := by
  intro v hv
  refine ⟨hv.1, ?_⟩
  rcases h.2.2 v hv.1 hv.2 with e | ⟨u, hu, e, hb⟩
  · exact Or.inl e
  · exact Or.inr ⟨u, e, hu, hb⟩
def f_Shortage_find_h40B (VS2 : Nat) (LT0_6 : Nat → Int64) (NS2 : Nat → Nat) (k_40 : (Nat) → (Nat → Int32) → (Nat → Nat) → (Nat) → (Nat → Nat) → (Nat → Int64) × (Nat → Int32) × (Nat → Nat) × (Nat) × (Nat → Nat)) (rec_40 : (Nat) → (Nat → Int32) → (Nat → Nat) → (Nat) → (Nat → Nat) → (Nat → Int64) × (Nat → Int32) × (Nat → Nat) × (Nat) × (Nat → Nat)) (x1_40 : Nat) (IT0_40 : Nat → Int32) (NT1_40 : Nat → Nat) (VT0_40 : Nat) (NT0_40 : Nat → Nat) : (Nat → Int64) × (Nat → Int32) × (Nat → Nat) × (Nat) × (Nat → Nat) :=
  if VS2 ≤ x1_40 then (k_40 x1_40 IT0_40 NT1_40 VT0_40 NT0_40) else (hh_bind (f_Shortage_canReach NT1_40 LT0_6 IT0_40 (12 + x1_40) (20 + (NS2 x1_40))) (fun y68 => if y68.1 = 0 then (rec_40 (x1_40 + 1) y68.2.1 y68.2.2 VT0_40 NT0_40) else (rec_40 (x1_40 + 1) y68.2.1 y68.2.2 (VT0_40 + 1) (va_up NT0_40 VT0_40 x1_40))))
def f_Shortage_find_h40 (VS2 : Nat) (LT0_6 : Nat → Int64) (NS2 : Nat → Nat) (k_40 : (Nat) → (Nat → Int32) → (Nat → Nat) → (Nat) → (Nat → Nat) → (Nat → Int64) × (Nat → Int32) × (Nat → Nat) × (Nat) × (Nat → Nat)) : Nat → (Nat) → (Nat → Int32) → (Nat → Nat) → (Nat) → (Nat → Nat) → (Nat → Int64) × (Nat → Int32) × (Nat → Nat) × (Nat) × (Nat → Nat)
  | 0, x1_40, IT0_40, NT1_40, VT0_40, NT0_40 => k_40 x1_40 IT0_40 NT1_40 VT0_40 NT0_40
  | n + 1, x1_40, IT0_40, NT1_40, VT0_40, NT0_40 => f_Shortage_find_h40B VS2 LT0_6 NS2 k_40 (fun x1_40 IT0_40 NT1_40 VT0_40 NT0_40 => f_Shortage_find_h40 VS2 LT0_6 NS2 k_40 n x1_40 IT0_40 NT1_40 VT0_40 NT0_40) x1_40 IT0_40 NT1_40 VT0_40 NT0_40
def f_Shortage_find_x40 (LT0_6 : Nat → Int64) (x1_40 : Nat) (IT0_40 : Nat → Int32) (NT1_40 : Nat → Nat) (VT0_40 : Nat) (NT0_40 : Nat → Nat) : (Nat → Int64) × (Nat → Int32) × (Nat → Nat) × (Nat) × (Nat → Nat) :=
  (LT0_6, IT0_40, NT1_40, VT0_40, NT0_40)
def f_Shortage_find_h6B  (k_6 : (Nat) → (Nat → Int64) → (Nat → Int32) → (Nat → Nat) → (Nat → Int64) × (Nat → Int32) × (Nat → Nat) × (Nat) × (Nat → Nat)) (rec_6 : (Nat) → (Nat → Int64) → (Nat → Int32) → (Nat → Nat) → (Nat → Int64) × (Nat → Int32) × (Nat → Nat) × (Nat) × (Nat → Nat)) (x1_6 : Nat) (LT0_6 : Nat → Int64) (IT0_6 : Nat → Int32) (NT1_6 : Nat → Nat) : (Nat → Int64) × (Nat → Int32) × (Nat → Nat) × (Nat) × (Nat → Nat) :=
  if 1000000 ≤ x1_6 then (k_6 x1_6 LT0_6 IT0_6 NT1_6) else (hh_bind (f_Shortage_canReach NT1_6 LT0_6 IT0_6 32 33) (fun y17 => if y17.1 = 0 then (k_6 x1_6 LT0_6 y17.2.1 y17.2.2) else (hh_bind (f_Shortage_push LT0_6 y17.2.1) (fun y24 => rec_6 (x1_6 + 1) y24 y17.2.1 y17.2.2))))
def f_Shortage_find_h6  (k_6 : (Nat) → (Nat → Int64) → (Nat → Int32) → (Nat → Nat) → (Nat → Int64) × (Nat → Int32) × (Nat → Nat) × (Nat) × (Nat → Nat)) : Nat → (Nat) → (Nat → Int64) → (Nat → Int32) → (Nat → Nat) → (Nat → Int64) × (Nat → Int32) × (Nat → Nat) × (Nat) × (Nat → Nat)
  | 0, x1_6, LT0_6, IT0_6, NT1_6 => k_6 x1_6 LT0_6 IT0_6 NT1_6
  | n + 1, x1_6, LT0_6, IT0_6, NT1_6 => f_Shortage_find_h6B  k_6 (fun x1_6 LT0_6 IT0_6 NT1_6 => f_Shortage_find_h6  k_6 n x1_6 LT0_6 IT0_6 NT1_6) x1_6 LT0_6 IT0_6 NT1_6
def f_Shortage_find_x6 (VS2 : Nat) (NS2 : Nat → Nat) (NT0 : Nat → Nat) (x1_6 : Nat) (LT0_6 : Nat → Int64) (IT0_6 : Nat → Int32) (NT1_6 : Nat → Nat) : (Nat → Int64) × (Nat → Int32) × (Nat → Nat) × (Nat) × (Nat → Nat) :=
  f_Shortage_find_h40 VS2 LT0_6 NS2 (f_Shortage_find_x40 LT0_6) 9 0 IT0_6 NT1_6 0 NT0
def f_Shortage_find (NT0 : Nat → Nat) (NT1 : Nat → Nat) (LT0 : Nat → Int64) (IT0 : Nat → Int32) (VS0 : Nat) (VS1 : Nat) (VS2 : Nat) (NS0 : Nat → Nat) (NS1 : Nat → Nat) (NS2 : Nat → Nat) (LS0 : Nat → Int64) (LS4 : Nat → Int64) (LS6 : Nat → Int64) (LS7 : Nat → Int64) (LS8 : Nat → Int64) (IS0 : Nat → Int32) : (Nat → Int64) × (Nat → Int32) × (Nat → Nat) × (Nat) × (Nat → Nat) :=
  hh_bind (f_Shortage_clear LT0 VS0 VS1 VS2 NS0 NS1 NS2 LS0 LS4 LS6 LS7 LS8 IS0) (fun y1 => f_Shortage_find_h6  (f_Shortage_find_x6 VS2 NS2 NT0) 1000001 0 y1 IT0 NT1)
set_option maxHeartbeats 4000000 in
set_option maxRecDepth 100000 in
theorem c_Shortage_find (l : Launch) (dC : Nat → ClassId) (dI : Nat → Nat → Nat) (cI cJ cZ : ClassId) (sz : Nat) (aT : Nat → Nat) (VT0 : Nat) (NT0 : Nat → Nat) (NT1 : Nat → Nat) (LT0 : Nat → Int64) (IT0 : Nat → Int32) (aS : Nat → Nat) (VS0 : Nat) (VS1 : Nat) (VS2 : Nat) (NS0 : Nat → Nat) (NS1 : Nat → Nat) (NS2 : Nat → Nat) (LS0 : Nat → Int64) (LS1 : Nat → Int64) (LS2 : Nat → Int64) (LS3 : Nat → Int64) (LS4 : Nat → Int64) (LS5 : Nat → Int64) (LS6 : Nat → Int64) (LS7 : Nat → Int64) (LS8 : Nat → Int64) (IS0 : Nat → Int32) (aY : Nat → Nat) (VY0 : Nat) (LY0 : Nat → Int64) (LY1 : Nat → Int64) (LY2 : Nat → Int64) (IY0 : Nat → Int32) (hc8 : VS0 ≤ 8) (hp4 : VS1 ≤ 4) (hf8 : VS2 ≤ 8) (hk4 : ∀ i, NS0 i < 4) (hcw : ∀ i, NS1 i < 12) (hfw : ∀ i, NS2 i < 12) (htq : ∀ i, NT1 i < 34) : hh_Cv l y_Shortage_find u_Shortage_find ({ frames := 3, cells := 0, slots := 0, locals := 67 }) (dC, dI) vwCl [(cI, .int), (cJ, .long), (cZ, .boolean)] (w_T cI cJ cZ aT VT0 NT0 NT1 LT0 IT0 aS ++ w_S cI cJ cZ aS VS0 VS1 VS2 NS0 NS1 NS2 LS0 LS1 LS2 LS3 LS4 LS5 LS6 LS7 LS8 IS0 aY ++ w_Y cI cJ cZ aY VY0 LY0 LY1 LY2 IY0) sz [.ref (aT 0)] (w_T cI cJ cZ aT ((f_Shortage_find NT0 NT1 LT0 IT0 VS0 VS1 VS2 NS0 NS1 NS2 LS0 LS4 LS6 LS7 LS8 IS0).2.2.2.1) ((f_Shortage_find NT0 NT1 LT0 IT0 VS0 VS1 VS2 NS0 NS1 NS2 LS0 LS4 LS6 LS7 LS8 IS0).2.2.2.2) ((f_Shortage_find NT0 NT1 LT0 IT0 VS0 VS1 VS2 NS0 NS1 NS2 LS0 LS4 LS6 LS7 LS8 IS0).2.2.1) ((f_Shortage_find NT0 NT1 LT0 IT0 VS0 VS1 VS2 NS0 NS1 NS2 LS0 LS4 LS6 LS7 LS8 IS0).1) ((f_Shortage_find NT0 NT1 LT0 IT0 VS0 VS1 VS2 NS0 NS1 NS2 LS0 LS4 LS6 LS7 LS8 IS0).2.1) aS ++ w_S cI cJ cZ aS VS0 VS1 VS2 NS0 NS1 NS2 LS0 LS1 LS2 LS3 LS4 LS5 LS6 LS7 LS8 IS0 aY ++ w_Y cI cJ cZ aY VY0 LY0 LY1 LY2 IY0) 0 0 := by
  unfold hh_Cv
  refine Met.ofW (cc := b_Shortage_find) (maxL := 2) (ret := none) (by decide) rfl ?_
  intro p e s m args below meth c s₁ B hml hv
  obtain ⟨rfl, hsz, hP, hK, hD0⟩ := hv
  have hx := B.exec
  have hb := B.bytes
  have hr := B.returns
  have hts := atoms_spec (ws := u_Shortage_find) B.pre
  have hG : ∀ w ∈ wG, w.before ([.ref (aT 0)]).toArray s = true := fun w h => hts w (List.mem_cons_of_mem _ h)
  have hown : s.vm.findClass R_Shortage = some m.cls := findClass_of_methodNamed B.named
  have hlocks := B.notSynchronized
  subst hsz
  have hD := hD0.self (sz := s.heap.size)
  generalize hAe : va_A (w_T cI cJ cZ aT VT0 NT0 NT1 LT0 IT0 aS ++ w_S cI cJ cZ aS VS0 VS1 VS2 NS0 NS1 NS2 LS0 LS1 LS2 LS3 LS4 LS5 LS6 LS7 LS8 IS0 aY ++ w_Y cI cJ cZ aY VY0 LY0 LY1 LY2 IY0) s.heap.size = A at hD ⊢
  have hA : ∀ q : Nat, s.heap.size ≤ q → A q := fun q h => by rw [← hAe]; exact Or.inr h
  have hS : va_S A s.heap s.heap [] := va_S.rf
  have hl := lv_entry ([.ref (aT 0)]) (n := 2) (Nat.le_of_ble_eq_true rfl)
  rw [lg_entry_eq]
  generalize (lg_sl ([.ref (aT 0)]) ++ List.replicate (2 - (lg_sl ([.ref (aT 0)])).length) Slot.unset).toArray = ls at hl ⊢
  have hl : lv_has ls 2 [(0, .ref (aT 0))] := hl
  generalize hR : f_Shortage_find NT0 NT1 LT0 IT0 VS0 VS1 VS2 NS0 NS1 NS2 LS0 LS4 LS6 LS7 LS8 IS0 = r0
  obtain ⟨H, locs, hHe, hle⟩ : ∃ (H : Heap) (locs : List Loc), s.heap = H ∧ [] = locs := ⟨_, _, rfl, rfl⟩
  have hP : va_P (dC, dI) vwCl (w_T cI cJ cZ aT VT0 NT0 NT1 LT0 IT0 aS ++ w_S cI cJ cZ aS VS0 VS1 VS2 NS0 NS1 NS2 LS0 LS1 LS2 LS3 LS4 LS5 LS6 LS7 LS8 IS0 aY ++ w_Y cI cJ cZ aY VY0 LY0 LY1 LY2 IY0) H := by rw [← hHe]; exact hP
  have hS : va_S A s.heap H locs := by rw [← hHe, ← hle]; exact hS
  refine hw_start hHe hle ?_
  unfold f_Shortage_find at hR
  refine lv_aload_n hx hb d_Shortage_find_0 rfl (lv_at hl 0 rfl) ?_
  obtain ⟨y1, hy1, hR⟩ := hw_bind hR
  have hM := c_Shortage_clear l dC dI cI cJ cZ H.size aT VT0 NT0 NT1 LT0 IT0 aS VS0 VS1 VS2 NS0 NS1 NS2 LS0 LS1 LS2 LS3 LS4 LS5 LS6 LS7 LS8 IS0 aY VY0 LY0 LY1 LY2 IY0 (by first | assumption | omega) (by first | assumption | omega) (by first | assumption | omega) (by first | assumption | omega) (by first | assumption | omega) (by first | assumption | omega)
  rw [hy1] at hM
  refine hw_callVv (As := []) (rest := []) (wr := ([] : va_W)) ⟨hx, hb, hml, hown, hG⟩ hM (hw_cwV 0 hG m_587 m_589 mp_18 m_6 m_590 rfl rfl (by decide +kernel) ⟨Nat.le_of_ble_eq_true rfl, Nat.le_of_ble_eq_true rfl⟩) hK hP hD hS hA [0, 1, 2, 3, 4, 5, 6, 7, 8, 9, 10, 11, 12, 13, 14, 15, 16, 17, 18, 19, 20, 21, 22, 23] [] rfl rfl (by decide) (by decide) (by decide) (hw_recv hK hP 0 rfl rfl) rfl hl.1 rfl (Nat.le_of_ble_eq_true rfl) d_Shortage_find_1 ⟨Nat.le_of_ble_eq_true rfl, Nat.le_of_ble_eq_true rfl⟩ (fun H locs hP hD hS => ?_)
  have hP : va_P (dC, dI) vwCl (w_T cI cJ cZ aT VT0 NT0 NT1 y1 IT0 aS ++ w_S cI cJ cZ aS VS0 VS1 VS2 NS0 NS1 NS2 LS0 LS1 LS2 LS3 LS4 LS5 LS6 LS7 LS8 IS0 aY ++ w_Y cI cJ cZ aY VY0 LY0 LY1 LY2 IY0) H := hP
  have hD : va_D A (w_T cI cJ cZ aT VT0 NT0 NT1 y1 IT0 aS ++ w_S cI cJ cZ aS VS0 VS1 VS2 NS0 NS1 NS2 LS0 LS1 LS2 LS3 LS4 LS5 LS6 LS7 LS8 IS0 aY ++ w_Y cI cJ cZ aY VY0 LY0 LY1 LY2 IY0) := hD
  refine lv_iconst (v := nI 0) hx hb d_Shortage_find_4 (by decide) ?_
  refine lv_istore_n (lv' := [(1, .int (nI 0)), (0, .ref (aT 0))]) hx hb d_Shortage_find_5 rfl hl (by decide) rfl (fun ls hl => ?_)
  obtain ⟨k_6, hk_6, hR⟩ : ∃ k, (f_Shortage_find_x6 VS2 NS2 NT0) = k ∧ f_Shortage_find_h6  k 1000001 0 y1 IT0 NT1 = r0 := ⟨_, rfl, hR⟩
  have X_6 : ∀ (x1_6 : Nat) (LT0_6 : Nat → Int64) (IT0_6 : Nat → Int32) (NT1_6 : Nat → Nat) (hi : x1_6 ≤ 1000000) (htq : ∀ i, NT1_6 i < 34) (H : Heap) (locs : List Loc) (hP : va_P (dC, dI) vwCl (w_T cI cJ cZ aT VT0 NT0 NT1_6 LT0_6 IT0_6 aS ++ w_S cI cJ cZ aS VS0 VS1 VS2 NS0 NS1 NS2 LS0 LS1 LS2 LS3 LS4 LS5 LS6 LS7 LS8 IS0 aY ++ w_Y cI cJ cZ aY VY0 LY0 LY1 LY2 IY0) H) (hD : va_D A (w_T cI cJ cZ aT VT0 NT0 NT1_6 LT0_6 IT0_6 aS ++ w_S cI cJ cZ aS VS0 VS1 VS2 NS0 NS1 NS2 LS0 LS1 LS2 LS3 LS4 LS5 LS6 LS7 LS8 IS0 aY ++ w_Y cI cJ cZ aY VY0 LY0 LY1 LY2 IY0)) (hS : va_S A s.heap H locs) (ls : Array Slot) (hl : lv_has ls 2 [(0, .ref (aT 0)), (1, .int (nI x1_6))]) (hR : k_6 x1_6 LT0_6 IT0_6 NT1_6 = r0), W p l e (headSpec u_Shortage_find ({ frames := 3, cells := 0, slots := 0, locals := 67 })).room s m ([.ref (aT 0)]).toArray below meth c H locs 0 0 (hh_Zv below (dC, dI) vwCl [(cI, .int), (cJ, .long), (cZ, .boolean)] A (w_T cI cJ cZ aT r0.2.2.2.1 r0.2.2.2.2 r0.2.2.1 r0.1 r0.2.1 aS ++ w_S cI cJ cZ aS VS0 VS1 VS2 NS0 NS1 NS2 LS0 LS1 LS2 LS3 LS4 LS5 LS6 LS7 LS8 IS0 aY ++ w_Y cI cJ cZ aY VY0 LY0 LY1 LY2 IY0) ([.ref (aT 0)]).toArray s) (F0 m 33 ls []) := by
    intro x1_6 LT0_6 IT0_6 NT1_6 hi htq H locs hP hD hS ls hl hR
    rw [← hk_6] at hR
    unfold f_Shortage_find_x6 at hR
    refine lv_aload_n hx hb d_Shortage_find_33 rfl (lv_at hl 0 rfl) ?_
    refine lv_iconst (v := nI 0) hx hb d_Shortage_find_34 (by decide) ?_
    refine va_put (D := (dC, dI)) (ci := 1) (v := .int (nI 0)) (ty := .int) (C := R_Shortage) (T := T_Shortage) (N := 6) hx hb hG in_Shortage ty_Shortage tok_Shortage nok_Shortage hown hK hP hD hS 0 rfl rfl 1 (by decide) (hG _ m_176) (fun _ h9 => h9) rfl (by decide +kernel) rfl rfl (Nat.le_of_ble_eq_true rfl) d_Shortage_find_35 (fun H locs hP hD hS => ?_)
    have hP : va_P (dC, dI) vwCl (w_T cI cJ cZ aT 0 NT0 NT1_6 LT0_6 IT0_6 aS ++ w_S cI cJ cZ aS VS0 VS1 VS2 NS0 NS1 NS2 LS0 LS1 LS2 LS3 LS4 LS5 LS6 LS7 LS8 IS0 aY ++ w_Y cI cJ cZ aY VY0 LY0 LY1 LY2 IY0) H := hP
    have hD : va_D A (w_T cI cJ cZ aT 0 NT0 NT1_6 LT0_6 IT0_6 aS ++ w_S cI cJ cZ aS VS0 VS1 VS2 NS0 NS1 NS2 LS0 LS1 LS2 LS3 LS4 LS5 LS6 LS7 LS8 IS0 aY ++ w_Y cI cJ cZ aY VY0 LY0 LY1 LY2 IY0) := hD
    refine lv_iconst (v := nI 0) hx hb d_Shortage_find_38 (by decide) ?_
    refine lv_istore_n (lv' := [(1, .int (nI 0)), (0, .ref (aT 0))]) hx hb d_Shortage_find_39 rfl hl (by decide) rfl (fun ls hl => ?_)
    obtain ⟨k_40, hk_40, hR⟩ : ∃ k, (f_Shortage_find_x40 LT0_6) = k ∧ f_Shortage_find_h40 VS2 LT0_6 NS2 k 9 0 IT0_6 NT1_6 0 NT0 = r0 := ⟨_, rfl, hR⟩
    have X_40 : ∀ (x1_40 : Nat) (IT0_40 : Nat → Int32) (NT1_40 : Nat → Nat) (VT0_40 : Nat) (NT0_40 : Nat → Nat) (hi : x1_40 ≤ VS2) (hv : VT0_40 ≤ x1_40) (htq : ∀ i, NT1_40 i < 34) (H : Heap) (locs : List Loc) (hP : va_P (dC, dI) vwCl (w_T cI cJ cZ aT VT0_40 NT0_40 NT1_40 LT0_6 IT0_40 aS ++ w_S cI cJ cZ aS VS0 VS1 VS2 NS0 NS1 NS2 LS0 LS1 LS2 LS3 LS4 LS5 LS6 LS7 LS8 IS0 aY ++ w_Y cI cJ cZ aY VY0 LY0 LY1 LY2 IY0) H) (hD : va_D A (w_T cI cJ cZ aT VT0_40 NT0_40 NT1_40 LT0_6 IT0_40 aS ++ w_S cI cJ cZ aS VS0 VS1 VS2 NS0 NS1 NS2 LS0 LS1 LS2 LS3 LS4 LS5 LS6 LS7 LS8 IS0 aY ++ w_Y cI cJ cZ aY VY0 LY0 LY1 LY2 IY0)) (hS : va_S A s.heap H locs) (ls : Array Slot) (hl : lv_has ls 2 [(0, .ref (aT 0)), (1, .int (nI x1_40))]) (hR : k_40 x1_40 IT0_40 NT1_40 VT0_40 NT0_40 = r0), W p l e (headSpec u_Shortage_find ({ frames := 3, cells := 0, slots := 0, locals := 67 })).room s m ([.ref (aT 0)]).toArray below meth c H locs 0 0 (hh_Zv below (dC, dI) vwCl [(cI, .int), (cJ, .long), (cZ, .boolean)] A (w_T cI cJ cZ aT r0.2.2.2.1 r0.2.2.2.2 r0.2.2.1 r0.1 r0.2.1 aS ++ w_S cI cJ cZ aS VS0 VS1 VS2 NS0 NS1 NS2 LS0 LS1 LS2 LS3 LS4 LS5 LS6 LS7 LS8 IS0 aY ++ w_Y cI cJ cZ aY VY0 LY0 LY1 LY2 IY0) ([.ref (aT 0)]).toArray s) (F0 m 100 ls []) := by
      intro x1_40 IT0_40 NT1_40 VT0_40 NT0_40 hi hv htq H locs hP hD hS ls hl hR
      rw [← hk_40] at hR
      unfold f_Shortage_find_x40 at hR
      subst hR
      exact W.vret hx hb hr (fun t ht hW => ⟨⟨(), rfl, trivial, by rw [ht]; exact hP, va_K.moved hW.alike hK, hD⟩, hS.F ht⟩) hS.2.2 d_Shortage_find_100
    have L_40 : ∀ (n : Nat) (x1_40 : Nat) (IT0_40 : Nat → Int32) (NT1_40 : Nat → Nat) (VT0_40 : Nat) (NT0_40 : Nat → Nat) (hi : x1_40 ≤ VS2) (hv : VT0_40 ≤ x1_40) (htq : ∀ i, NT1_40 i < 34) (hfu : VS2 - x1_40 < n) (H : Heap) (locs : List Loc) (hP : va_P (dC, dI) vwCl (w_T cI cJ cZ aT VT0_40 NT0_40 NT1_40 LT0_6 IT0_40 aS ++ w_S cI cJ cZ aS VS0 VS1 VS2 NS0 NS1 NS2 LS0 LS1 LS2 LS3 LS4 LS5 LS6 LS7 LS8 IS0 aY ++ w_Y cI cJ cZ aY VY0 LY0 LY1 LY2 IY0) H) (hD : va_D A (w_T cI cJ cZ aT VT0_40 NT0_40 NT1_40 LT0_6 IT0_40 aS ++ w_S cI cJ cZ aS VS0 VS1 VS2 NS0 NS1 NS2 LS0 LS1 LS2 LS3 LS4 LS5 LS6 LS7 LS8 IS0 aY ++ w_Y cI cJ cZ aY VY0 LY0 LY1 LY2 IY0)) (hS : va_S A s.heap H locs) (ls : Array Slot) (hl : lv_has ls 2 [(0, .ref (aT 0)), (1, .int (nI x1_40))]) (hR : f_Shortage_find_h40 VS2 LT0_6 NS2 k_40 n x1_40 IT0_40 NT1_40 VT0_40 NT0_40 = r0), W p l e (headSpec u_Shortage_find ({ frames := 3, cells := 0, slots := 0, locals := 67 })).room s m ([.ref (aT 0)]).toArray below meth c H locs 0 0 (hh_Zv below (dC, dI) vwCl [(cI, .int), (cJ, .long), (cZ, .boolean)] A (w_T cI cJ cZ aT r0.2.2.2.1 r0.2.2.2.2 r0.2.2.1 r0.1 r0.2.1 aS ++ w_S cI cJ cZ aS VS0 VS1 VS2 NS0 NS1 NS2 LS0 LS1 LS2 LS3 LS4 LS5 LS6 LS7 LS8 IS0 aY ++ w_Y cI cJ cZ aY VY0 LY0 LY1 LY2 IY0) ([.ref (aT 0)]).toArray s) (F0 m 40 ls []) := by
      intro n
      induction n with
      | zero =>
        intro x1_40 IT0_40 NT1_40 VT0_40 NT0_40 hi hv htq hfu H locs hP hD hS ls hl hR
        exact absurd hfu (Nat.not_lt_zero _)
      | succ n ih_40 =>
        intro x1_40 IT0_40 NT1_40 VT0_40 NT0_40 hi hv htq hfu H locs hP hD hS ls hl hR
        rw [f_Shortage_find_h40] at hR
        obtain ⟨rec_40, hrec_40, hR⟩ : ∃ r, r = _ ∧ f_Shortage_find_h40B VS2 LT0_6 NS2 k_40 r x1_40 IT0_40 NT1_40 VT0_40 NT0_40 = r0 := ⟨_, rfl, hR⟩
        unfold f_Shortage_find_h40B at hR
        refine lv_iload_n hx hb d_Shortage_find_40 rfl (lv_at hl 1 rfl) ?_
        refine lv_aload_n hx hb d_Shortage_find_41 rfl (lv_at hl 0 rfl) ?_
        refine va_get (D := (dC, dI)) (ci := 1) (v := .ref (aS 0)) (C := R_Shortage) (T := T_Shortage) (N := 6) hx hb hG in_Shortage hown hK hP 0 rfl rfl 0 (by decide) (hG _ m_175) (fun _ h9 => h9) rfl d_Shortage_find_42 ?_
        refine va_get (D := (dC, dI)) (ci := 2) (v := .int (nI VS2)) (C := R_Site) (T := T_Site) (N := 17) hx hb hG in_Site hown hK hP 5 rfl rfl 2 (by decide) (hG _ m_60) (fun _ h9 => h9) rfl d_Shortage_find_45 ?_
        refine hw_icmp_ge (tgt := 100) hx hb d_Shortage_find_48 (by decide) (by omega) (by omega) (fun c48 => ?_) (fun c48 => ?_)
        · replace hR := (if_pos c48).symm.trans hR
          exact X_40 x1_40 IT0_40 NT1_40 VT0_40 NT0_40 (by first | assumption | omega | exact hw_upb (by assumption) (by omega)) (by first | assumption | omega | exact hw_upb (by assumption) (by omega)) (by first | assumption | omega | exact hw_upb (by assumption) (by omega)) H locs hP hD hS ls (lv_sub hl [0, 1] rfl) hR
        · replace hR := (if_neg c48).symm.trans hR
          refine lv_aload_n hx hb d_Shortage_find_51 rfl (lv_at hl 0 rfl) ?_
          refine lv_bipush (v := nI 12) hx hb d_Shortage_find_52 (by decide) ?_
          refine lv_iload_n hx hb d_Shortage_find_54 rfl (lv_at hl 1 rfl) ?_
          refine hw_iadd hx hb d_Shortage_find_55 ?_
          refine lv_bipush (v := nI 20) hx hb d_Shortage_find_56 (by decide) ?_
          refine lv_aload_n hx hb d_Shortage_find_58 rfl (lv_at hl 0 rfl) ?_
          refine va_get (D := (dC, dI)) (ci := 1) (v := .ref (aS 0)) (C := R_Shortage) (T := T_Shortage) (N := 6) hx hb hG in_Shortage hown hK hP 0 rfl rfl 0 (by decide) (hG _ m_175) (fun _ h9 => h9) rfl d_Shortage_find_59 ?_
          refine va_get (D := (dC, dI)) (ci := 2) (v := .ref (aS 9)) (C := R_Site) (T := T_Site) (N := 17) hx hb hG in_Site hown hK hP 5 rfl rfl 12 (by decide) (hG _ m_79) (fun _ h9 => h9) rfl d_Shortage_find_62 ?_
          refine lv_iload_n hx hb d_Shortage_find_65 rfl (lv_at hl 1 rfl) ?_
          refine hw_nald (g := NS2) hx hb hK hP 14 0 rfl rfl (by decide) (by omega) d_Shortage_find_66 ?_
          have hb66 := hfw x1_40
          refine hw_iadd hx hb d_Shortage_find_67 ?_
          obtain ⟨y68, hy68, hR⟩ := hw_bind hR
          have hM := c_Shortage_canReach l dC dI cI cJ cZ H.size aT VT0_40 NT0_40 NT1_40 LT0_6 IT0_40 aS VS0 VS1 VS2 NS0 NS1 NS2 LS0 LS1 LS2 LS3 LS4 LS5 LS6 LS7 LS8 IS0 aY VY0 LY0 LY1 LY2 IY0 (12 + x1_40) (20 + (NS2 x1_40)) (by first | assumption | omega) (by first | assumption | omega) (by first | assumption | omega)
          rw [hy68] at hM
          refine hw_callVi (As := [.int (nI (12 + x1_40)), .int (nI (20 + (NS2 x1_40)))]) (rest := []) (wr := ([] : va_W)) ⟨hx, hb, hml, hown, hG⟩ hM (hw_cwV 2 hG m_597 m_599 mp_19 m_6 m_600 rfl rfl (by decide +kernel) ⟨Nat.le_of_ble_eq_true rfl, Nat.le_of_ble_eq_true rfl⟩) hK hP hD hS hA [0, 1, 2, 3, 4, 5, 6, 7, 8, 9, 10, 11, 12, 13, 14, 15, 16, 17, 18, 19, 20, 21, 22, 23] [] rfl rfl (by decide) (by decide) (by decide) (hw_recv hK hP 0 rfl rfl) rfl hl.1 rfl (Nat.le_of_ble_eq_true rfl) d_Shortage_find_68 ⟨Nat.le_of_ble_eq_true rfl, Nat.le_of_ble_eq_true rfl⟩ (fun H locs hP hD hS => ?_)
          have hP : va_P (dC, dI) vwCl (w_T cI cJ cZ aT VT0_40 NT0_40 y68.2.2 LT0_6 y68.2.1 aS ++ w_S cI cJ cZ aS VS0 VS1 VS2 NS0 NS1 NS2 LS0 LS1 LS2 LS3 LS4 LS5 LS6 LS7 LS8 IS0 aY ++ w_Y cI cJ cZ aY VY0 LY0 LY1 LY2 IY0) H := hP
          have hD : va_D A (w_T cI cJ cZ aT VT0_40 NT0_40 y68.2.2 LT0_6 y68.2.1 aS ++ w_S cI cJ cZ aS VS0 VS1 VS2 NS0 NS1 NS2 LS0 LS1 LS2 LS3 LS4 LS5 LS6 LS7 LS8 IS0 aY ++ w_Y cI cJ cZ aY VY0 LY0 LY1 LY2 IY0) := hD
          have hcr68 := f_Shortage_canReach_in (NT1 := NT1_40) LT0_6 IT0_40 (12 + x1_40) (20 + (NS2 x1_40)) (by assumption) (show (12 + x1_40) < 34 by omega)
          rw [hy68] at hcr68
          obtain ⟨⟨q68, htb68⟩, hrr68⟩ := hcr68
          have htq68 := htb68.1
          refine lv_if_eq (tgt := 94) hx hb d_Shortage_find_71 (by decide) (fun c71 => ?_) (fun c71 => ?_)
          · replace hR := (if_pos c71).symm.trans hR
            refine lv_iinc (v := nI (x1_40 + 1)) (lv' := [(1, .int (nI (x1_40 + 1))), (0, .ref (aT 0))]) hx hb d_Shortage_find_94 hl (k := 1) rfl (hw_inc _ 1) (by decide) rfl (fun ls hl => ?_)
            refine lv_goto (tgt := 40) hx hb d_Shortage_find_97 (by decide) ?_
            rw [hrec_40] at hR
            exact ih_40 (x1_40 + 1) y68.2.1 y68.2.2 VT0_40 NT0_40 (by first | assumption | omega | exact hw_upb (by assumption) (by omega)) (by first | assumption | omega | exact hw_upb (by assumption) (by omega)) (by first | assumption | omega | exact hw_upb (by assumption) (by omega)) (by omega) H locs hP hD hS ls (lv_sub hl [1, 0] rfl) hR
          · replace hR := (if_neg c71).symm.trans hR
            refine lv_aload_n hx hb d_Shortage_find_74 rfl (lv_at hl 0 rfl) ?_
            refine va_get (D := (dC, dI)) (ci := 1) (v := .ref (aT 1)) (C := R_Shortage) (T := T_Shortage) (N := 6) hx hb hG in_Shortage hown hK hP 0 rfl rfl 2 (by decide) (hG _ m_178) (fun _ h9 => h9) rfl d_Shortage_find_75 ?_
            refine lv_aload_n hx hb d_Shortage_find_78 rfl (lv_at hl 0 rfl) ?_
            refine va_get (D := (dC, dI)) (ci := 1) (v := .int (nI VT0_40)) (C := R_Shortage) (T := T_Shortage) (N := 6) hx hb hG in_Shortage hown hK hP 0 rfl rfl 1 (by decide) (hG _ m_176) (fun _ h9 => h9) rfl d_Shortage_find_79 ?_
            refine lv_iload_n hx hb d_Shortage_find_82 rfl (lv_at hl 1 rfl) ?_
            refine hw_nast (g := NT0_40) hx hb hK hP hD hS 1 0 rfl rfl (by decide) (by omega) d_Shortage_find_83 (fun H locs hP hD hS => ?_)
            have hP : va_P (dC, dI) vwCl (w_T cI cJ cZ aT VT0_40 (va_up NT0_40 VT0_40 x1_40) y68.2.2 LT0_6 y68.2.1 aS ++ w_S cI cJ cZ aS VS0 VS1 VS2 NS0 NS1 NS2 LS0 LS1 LS2 LS3 LS4 LS5 LS6 LS7 LS8 IS0 aY ++ w_Y cI cJ cZ aY VY0 LY0 LY1 LY2 IY0) H := hP
            have hD : va_D A (w_T cI cJ cZ aT VT0_40 (va_up NT0_40 VT0_40 x1_40) y68.2.2 LT0_6 y68.2.1 aS ++ w_S cI cJ cZ aS VS0 VS1 VS2 NS0 NS1 NS2 LS0 LS1 LS2 LS3 LS4 LS5 LS6 LS7 LS8 IS0 aY ++ w_Y cI cJ cZ aY VY0 LY0 LY1 LY2 IY0) := hD
            refine lv_aload_n hx hb d_Shortage_find_84 rfl (lv_at hl 0 rfl) ?_
            refine lv_dup hx hb d_Shortage_find_85 rfl ?_
            refine va_get (D := (dC, dI)) (ci := 1) (v := .int (nI VT0_40)) (C := R_Shortage) (T := T_Shortage) (N := 6) hx hb hG in_Shortage hown hK hP 0 rfl rfl 1 (by decide) (hG _ m_176) (fun _ h9 => h9) rfl d_Shortage_find_86 ?_
            refine lv_iconst (v := nI 1) hx hb d_Shortage_find_89 (by decide) ?_
            refine hw_iadd hx hb d_Shortage_find_90 ?_
            refine va_put (D := (dC, dI)) (ci := 1) (v := .int (nI (VT0_40 + 1))) (ty := .int) (C := R_Shortage) (T := T_Shortage) (N := 6) hx hb hG in_Shortage ty_Shortage tok_Shortage nok_Shortage hown hK hP hD hS 0 rfl rfl 1 (by decide) (hG _ m_176) (fun _ h9 => h9) rfl (by decide +kernel) rfl rfl (Nat.le_of_ble_eq_true rfl) d_Shortage_find_91 (fun H locs hP hD hS => ?_)
            have hP : va_P (dC, dI) vwCl (w_T cI cJ cZ aT (VT0_40 + 1) (va_up NT0_40 VT0_40 x1_40) y68.2.2 LT0_6 y68.2.1 aS ++ w_S cI cJ cZ aS VS0 VS1 VS2 NS0 NS1 NS2 LS0 LS1 LS2 LS3 LS4 LS5 LS6 LS7 LS8 IS0 aY ++ w_Y cI cJ cZ aY VY0 LY0 LY1 LY2 IY0) H := hP
            have hD : va_D A (w_T cI cJ cZ aT (VT0_40 + 1) (va_up NT0_40 VT0_40 x1_40) y68.2.2 LT0_6 y68.2.1 aS ++ w_S cI cJ cZ aS VS0 VS1 VS2 NS0 NS1 NS2 LS0 LS1 LS2 LS3 LS4 LS5 LS6 LS7 LS8 IS0 aY ++ w_Y cI cJ cZ aY VY0 LY0 LY1 LY2 IY0) := hD
            refine lv_iinc (v := nI (x1_40 + 1)) (lv' := [(1, .int (nI (x1_40 + 1))), (0, .ref (aT 0))]) hx hb d_Shortage_find_94 hl (k := 1) rfl (hw_inc _ 1) (by decide) rfl (fun ls hl => ?_)
            refine lv_goto (tgt := 40) hx hb d_Shortage_find_97 (by decide) ?_
            rw [hrec_40] at hR
            exact ih_40 (x1_40 + 1) y68.2.1 y68.2.2 (VT0_40 + 1) (va_up NT0_40 VT0_40 x1_40) (by first | assumption | omega | exact hw_upb (by assumption) (by omega)) (by first | assumption | omega | exact hw_upb (by assumption) (by omega)) (by first | assumption | omega | exact hw_upb (by assumption) (by omega)) (by omega) H locs hP hD hS ls (lv_sub hl [1, 0] rfl) hR
    exact L_40 9 0 IT0_6 NT1_6 0 NT0 (by first | assumption | omega | exact hw_upb (by assumption) (by omega)) (by first | assumption | omega | exact hw_upb (by assumption) (by omega)) (by first | assumption | omega | exact hw_upb (by assumption) (by omega)) (by omega) H locs hP hD hS ls (lv_sub hl [1, 0] rfl) hR
  have L_6 : ∀ (n : Nat) (x1_6 : Nat) (LT0_6 : Nat → Int64) (IT0_6 : Nat → Int32) (NT1_6 : Nat → Nat) (hi : x1_6 ≤ 1000000) (htq : ∀ i, NT1_6 i < 34) (hfu : 1000000 - x1_6 < n) (H : Heap) (locs : List Loc) (hP : va_P (dC, dI) vwCl (w_T cI cJ cZ aT VT0 NT0 NT1_6 LT0_6 IT0_6 aS ++ w_S cI cJ cZ aS VS0 VS1 VS2 NS0 NS1 NS2 LS0 LS1 LS2 LS3 LS4 LS5 LS6 LS7 LS8 IS0 aY ++ w_Y cI cJ cZ aY VY0 LY0 LY1 LY2 IY0) H) (hD : va_D A (w_T cI cJ cZ aT VT0 NT0 NT1_6 LT0_6 IT0_6 aS ++ w_S cI cJ cZ aS VS0 VS1 VS2 NS0 NS1 NS2 LS0 LS1 LS2 LS3 LS4 LS5 LS6 LS7 LS8 IS0 aY ++ w_Y cI cJ cZ aY VY0 LY0 LY1 LY2 IY0)) (hS : va_S A s.heap H locs) (ls : Array Slot) (hl : lv_has ls 2 [(0, .ref (aT 0)), (1, .int (nI x1_6))]) (hR : f_Shortage_find_h6  k_6 n x1_6 LT0_6 IT0_6 NT1_6 = r0), W p l e (headSpec u_Shortage_find ({ frames := 3, cells := 0, slots := 0, locals := 67 })).room s m ([.ref (aT 0)]).toArray below meth c H locs 0 0 (hh_Zv below (dC, dI) vwCl [(cI, .int), (cJ, .long), (cZ, .boolean)] A (w_T cI cJ cZ aT r0.2.2.2.1 r0.2.2.2.2 r0.2.2.1 r0.1 r0.2.1 aS ++ w_S cI cJ cZ aS VS0 VS1 VS2 NS0 NS1 NS2 LS0 LS1 LS2 LS3 LS4 LS5 LS6 LS7 LS8 IS0 aY ++ w_Y cI cJ cZ aY VY0 LY0 LY1 LY2 IY0) ([.ref (aT 0)]).toArray s) (F0 m 6 ls []) := by
    intro n
    induction n with
    | zero =>
      intro x1_6 LT0_6 IT0_6 NT1_6 hi htq hfu H locs hP hD hS ls hl hR
      exact absurd hfu (Nat.not_lt_zero _)
    | succ n ih_6 =>
      intro x1_6 LT0_6 IT0_6 NT1_6 hi htq hfu H locs hP hD hS ls hl hR
      rw [f_Shortage_find_h6] at hR
      obtain ⟨rec_6, hrec_6, hR⟩ : ∃ r, r = _ ∧ f_Shortage_find_h6B  k_6 r x1_6 LT0_6 IT0_6 NT1_6 = r0 := ⟨_, rfl, hR⟩
      unfold f_Shortage_find_h6B at hR
      refine lv_iload_n hx hb d_Shortage_find_6 rfl (lv_at hl 1 rfl) ?_
      refine lv_ldc (v := nI 1000000) hx hb hown (hG _ m_596) d_Shortage_find_7 ?_
      refine hw_icmp_ge (tgt := 33) hx hb d_Shortage_find_9 (by decide) (by omega) (by omega) (fun c9 => ?_) (fun c9 => ?_)
      · replace hR := (if_pos c9).symm.trans hR
        exact X_6 x1_6 LT0_6 IT0_6 NT1_6 (by first | assumption | omega | exact hw_upb (by assumption) (by omega)) (by first | assumption | omega | exact hw_upb (by assumption) (by omega)) H locs hP hD hS ls (lv_sub hl [0, 1] rfl) hR
      · replace hR := (if_neg c9).symm.trans hR
        refine lv_aload_n hx hb d_Shortage_find_12 rfl (lv_at hl 0 rfl) ?_
        refine lv_bipush (v := nI 32) hx hb d_Shortage_find_13 (by decide) ?_
        refine lv_bipush (v := nI 33) hx hb d_Shortage_find_15 (by decide) ?_
        obtain ⟨y17, hy17, hR⟩ := hw_bind hR
        have hM := c_Shortage_canReach l dC dI cI cJ cZ H.size aT VT0 NT0 NT1_6 LT0_6 IT0_6 aS VS0 VS1 VS2 NS0 NS1 NS2 LS0 LS1 LS2 LS3 LS4 LS5 LS6 LS7 LS8 IS0 aY VY0 LY0 LY1 LY2 IY0 32 33 (by first | assumption | omega) (by first | assumption | omega) (by first | assumption | omega)
        rw [hy17] at hM
        refine hw_callVi (As := [.int (nI 32), .int (nI 33)]) (rest := []) (wr := ([] : va_W)) ⟨hx, hb, hml, hown, hG⟩ hM (hw_cwV 2 hG m_597 m_599 mp_19 m_6 m_600 rfl rfl (by decide +kernel) ⟨Nat.le_of_ble_eq_true rfl, Nat.le_of_ble_eq_true rfl⟩) hK hP hD hS hA [0, 1, 2, 3, 4, 5, 6, 7, 8, 9, 10, 11, 12, 13, 14, 15, 16, 17, 18, 19, 20, 21, 22, 23] [] rfl rfl (by decide) (by decide) (by decide) (hw_recv hK hP 0 rfl rfl) rfl hl.1 rfl (Nat.le_of_ble_eq_true rfl) d_Shortage_find_17 ⟨Nat.le_of_ble_eq_true rfl, Nat.le_of_ble_eq_true rfl⟩ (fun H locs hP hD hS => ?_)
        have hP : va_P (dC, dI) vwCl (w_T cI cJ cZ aT VT0 NT0 y17.2.2 LT0_6 y17.2.1 aS ++ w_S cI cJ cZ aS VS0 VS1 VS2 NS0 NS1 NS2 LS0 LS1 LS2 LS3 LS4 LS5 LS6 LS7 LS8 IS0 aY ++ w_Y cI cJ cZ aY VY0 LY0 LY1 LY2 IY0) H := hP
        have hD : va_D A (w_T cI cJ cZ aT VT0 NT0 y17.2.2 LT0_6 y17.2.1 aS ++ w_S cI cJ cZ aS VS0 VS1 VS2 NS0 NS1 NS2 LS0 LS1 LS2 LS3 LS4 LS5 LS6 LS7 LS8 IS0 aY ++ w_Y cI cJ cZ aY VY0 LY0 LY1 LY2 IY0) := hD
        have hcr17 := f_Shortage_canReach_in (NT1 := NT1_6) LT0_6 IT0_6 32 33 (by assumption) (show 32 < 34 by omega)
        rw [hy17] at hcr17
        obtain ⟨⟨q17, htb17⟩, hrr17⟩ := hcr17
        have htq17 := htb17.1
        refine lv_if_eq (tgt := 33) hx hb d_Shortage_find_20 (by decide) (fun c20 => ?_) (fun c20 => ?_)
        · replace hR := (if_pos c20).symm.trans hR
          exact X_6 x1_6 LT0_6 y17.2.1 y17.2.2 (by first | assumption | omega | exact hw_upb (by assumption) (by omega)) (by first | assumption | omega | exact hw_upb (by assumption) (by omega)) H locs hP hD hS ls (lv_sub hl [0, 1] rfl) hR
        · replace hR := (if_neg c20).symm.trans hR
          have hr33 := hrr17.resolve_left c20
          refine lv_aload_n hx hb d_Shortage_find_23 rfl (lv_at hl 0 rfl) ?_
          obtain ⟨y24, hy24, hR⟩ := hw_bind hR
          have hM := c_Shortage_push l dC dI cI cJ cZ H.size aT VT0 NT0 y17.2.2 LT0_6 y17.2.1 aS VS0 VS1 VS2 NS0 NS1 NS2 LS0 LS1 LS2 LS3 LS4 LS5 LS6 LS7 LS8 IS0 aY VY0 LY0 LY1 LY2 IY0 (fun v => v < 34 ∧ y17.2.1 v ≠ -1) (hp_tb_ring htb17) ⟨by omega, hr33⟩
          rw [hy24] at hM
          refine hw_callVv (As := []) (rest := []) (wr := ([] : va_W)) ⟨hx, hb, hml, hown, hG⟩ hM (hw_cwV 0 hG m_602 m_604 mp_20 m_6 m_605 rfl rfl (by decide +kernel) ⟨Nat.le_of_ble_eq_true rfl, Nat.le_of_ble_eq_true rfl⟩) hK hP hD hS hA [0, 1, 2, 3, 4, 5, 6, 7, 8, 9, 10, 11, 12, 13, 14, 15, 16, 17, 18, 19, 20, 21, 22, 23] [] rfl rfl (by decide) (by decide) (by decide) (hw_recv hK hP 0 rfl rfl) rfl hl.1 rfl (Nat.le_of_ble_eq_true rfl) d_Shortage_find_24 ⟨Nat.le_of_ble_eq_true rfl, Nat.le_of_ble_eq_true rfl⟩ (fun H locs hP hD hS => ?_)
          have hP : va_P (dC, dI) vwCl (w_T cI cJ cZ aT VT0 NT0 y17.2.2 y24 y17.2.1 aS ++ w_S cI cJ cZ aS VS0 VS1 VS2 NS0 NS1 NS2 LS0 LS1 LS2 LS3 LS4 LS5 LS6 LS7 LS8 IS0 aY ++ w_Y cI cJ cZ aY VY0 LY0 LY1 LY2 IY0) H := hP
          have hD : va_D A (w_T cI cJ cZ aT VT0 NT0 y17.2.2 y24 y17.2.1 aS ++ w_S cI cJ cZ aS VS0 VS1 VS2 NS0 NS1 NS2 LS0 LS1 LS2 LS3 LS4 LS5 LS6 LS7 LS8 IS0 aY ++ w_Y cI cJ cZ aY VY0 LY0 LY1 LY2 IY0) := hD
          refine lv_iinc (v := nI (x1_6 + 1)) (lv' := [(1, .int (nI (x1_6 + 1))), (0, .ref (aT 0))]) hx hb d_Shortage_find_27 hl (k := 1) rfl (hw_inc _ 1) (by decide) rfl (fun ls hl => ?_)
          refine lv_goto (tgt := 6) hx hb d_Shortage_find_30 (by decide) ?_
          rw [hrec_6] at hR
          exact ih_6 (x1_6 + 1) y24 y17.2.1 y17.2.2 (by first | assumption | omega | exact hw_upb (by assumption) (by omega)) (by first | assumption | omega | exact hw_upb (by assumption) (by omega)) (by omega) H locs hP hD hS ls (lv_sub hl [1, 0] rfl) hR
  exact L_6 1000001 0 y1 IT0 NT1 (by first | assumption | omega | exact hw_upb (by assumption) (by omega)) (by first | assumption | omega | exact hw_upb (by assumption) (by omega)) (by omega) H locs hP hD hS ls (lv_sub hl [1, 0] rfl) hR
