abbrev b_Model_sendAll : ByteArray := prog_7_method_20_code
def y_Model_sendAll : MethodName := ⟨R_Model, "sendAll", "()J"⟩
def u_Model_sendAll : List Cond := Cond.code y_Model_sendAll b_Model_sendAll 3 (some .long) :: wG
theorem d_Model_sendAll_0 : decode b_Model_sendAll 0 = .ok (.lconst 0, 1) := by decide +kernel
theorem d_Model_sendAll_1 : decode b_Model_sendAll 1 = .ok (.lstore_n 1, 1) := by decide +kernel
theorem d_Model_sendAll_2 : decode b_Model_sendAll 2 = .ok (.aload_n 0, 1) := by decide +kernel
theorem d_Model_sendAll_3 : decode b_Model_sendAll 3 = .ok (.iconst 0, 1) := by decide +kernel
theorem d_Model_sendAll_4 : decode b_Model_sendAll 4 = .ok (.invokevirtual 139, 3) := by decide +kernel
theorem d_Model_sendAll_7 : decode b_Model_sendAll 7 = .ok (.aload_n 0, 1) := by decide +kernel
theorem d_Model_sendAll_8 : decode b_Model_sendAll 8 = .ok (.getfield 75, 3) := by decide +kernel
theorem d_Model_sendAll_11 : decode b_Model_sendAll 11 = .ok (.bipush 33, 2) := by decide +kernel
theorem d_Model_sendAll_13 : decode b_Model_sendAll 13 = .ok (.laload, 1) := by decide +kernel
theorem d_Model_sendAll_14 : decode b_Model_sendAll 14 = .ok (.ldc2_w 137, 3) := by decide +kernel
theorem d_Model_sendAll_17 : decode b_Model_sendAll 17 = .ok (.lcmp, 1) := by decide +kernel
theorem d_Model_sendAll_18 : decode b_Model_sendAll 18 = .ok (.ifCond .ge 21, 3) := by decide +kernel
theorem d_Model_sendAll_21 : decode b_Model_sendAll 21 = .ok (.lload_n 1, 1) := by decide +kernel
theorem d_Model_sendAll_22 : decode b_Model_sendAll 22 = .ok (.aload_n 0, 1) := by decide +kernel
theorem d_Model_sendAll_23 : decode b_Model_sendAll 23 = .ok (.iconst 0, 1) := by decide +kernel
theorem d_Model_sendAll_24 : decode b_Model_sendAll 24 = .ok (.bipush 33, 2) := by decide +kernel
theorem d_Model_sendAll_26 : decode b_Model_sendAll 26 = .ok (.invokevirtual 143, 3) := by decide +kernel
theorem d_Model_sendAll_29 : decode b_Model_sendAll 29 = .ok (.ladd, 1) := by decide +kernel
theorem d_Model_sendAll_30 : decode b_Model_sendAll 30 = .ok (.lstore_n 1, 1) := by decide +kernel
theorem d_Model_sendAll_31 : decode b_Model_sendAll 31 = .ok (.aload_n 0, 1) := by decide +kernel
theorem d_Model_sendAll_32 : decode b_Model_sendAll 32 = .ok (.iconst 0, 1) := by decide +kernel
theorem d_Model_sendAll_33 : decode b_Model_sendAll 33 = .ok (.invokevirtual 139, 3) := by decide +kernel
theorem d_Model_sendAll_36 : decode b_Model_sendAll 36 = .ok (.goto (-29), 3) := by decide +kernel
theorem d_Model_sendAll_39 : decode b_Model_sendAll 39 = .ok (.lload_n 1, 1) := by decide +kernel
theorem d_Model_sendAll_40 : decode b_Model_sendAll 40 = .ok (.lreturn, 1) := by decide +kernel
/-! ===== one more road: the potential goes on ===== -/
def hm_anti (C : Nat → Int64) : Prop := ∀ a b, a < 34 → b < 34 → (C (34 * a + b)).toInt = - (C (34 * b + a)).toInt
def hm_Net (R C : Nat → Int64) (pi : Nat → Int) : Prop := hm_pot R C pi ∧ hm_cb C ∧ hm_rb R ∧ hm_anti C ∧ pi 0 = 0 ∧ ∀ v, v < 34 → 0 ≤ pi v ∧ pi v ≤ pi 33 ∧ pi v ≤ 4000000000000000
theorem hm_Net.pb {R C : Nat → Int64} {pi : Nat → Int} (h : hm_Net R C pi) : hm_pb pi := fun v hv => by
  have := h.2.2.2.2.2 v hv
  exact ⟨by omega, by omega⟩
/-- the tree that send walks: each node's road up -/
def hm_tree (R C : Nat → Int64) (src : Nat) (far : Nat → Int64) (bef : Nat → Int32) (dep : Nat → Nat) : Prop := (∀ v, dep v < 1000) ∧ ∀ v, hm_Rs far v → v = src ∨ ∃ u, hm_Rs far u ∧ bef v = nI u ∧ 0 < (R (34 * u + v)).toInt ∧ (far v).toInt = (far u).toInt + (C (34 * u + v)).toInt ∧ dep u < dep v
theorem hm_Good.tree {R C : Nat → Int64} {pi : Nat → Int} {src : Nat} {r : (Nat → Int64) × (Nat → Int32)} (hcb : hm_cb C) (hpb : hm_pb pi) (hsrc : src < 34) (h : hm_Good R C pi src r) : ∃ dep, hm_tree R C src r.1 r.2 dep := by
  obtain ⟨dep, h1, h2⟩ := hm_dep h.1
  refine ⟨dep, h1, fun v hv => ?_⟩
  rcases h2 v hv with e | ⟨u, hu, e, hr, hle, hd⟩
  · exact Or.inl e
  · refine Or.inr ⟨u, hu, e, hr, ?_, hd⟩
    have hnr := h.2 u v hu.1 hv.1
    have hc := hcb (34 * u + v) (by have := hu.1; have := hv.1; omega)
    have hlow := h.1.2.1 u hu.1
    have hp1 := hpb u hu.1
    have hp2 := hpb src hsrc
    have hul := hu.2
    have hadd : (r.1 u + C (34 * u + v)).toInt = (r.1 u).toInt + (C (34 * u + v)).toInt := h64_add (by omega) (by omega)
    have hle2 := hnr (by rw [h64_le, h64_nev]; omega) (by rw [h64_le, h64_0]; omega)
    rw [h64_le, hadd] at hle2
    omega
theorem hm_tree.road {R C : Nat → Int64} {src : Nat} {far : Nat → Int64} {bef : Nat → Int32} {dep : Nat → Nat} (h : hm_tree R C src far bef dep) {to : Nat} (hto : hm_Rs far to) :
    ∃ L, L < 1000 ∧ hm_road R bef dep src to L ∧ ∀ j, j < L → hm_Rs far (hm_p bef to j) ∧ (far (hm_p bef to j)).toInt = (far (hm_p bef to (j + 1))).toInt + (C (34 * hm_p bef to (j + 1) + hm_p bef to j)).toInt := by
  have h2 : ∀ v, hm_Rs far v → v = src ∨ ∃ u, hm_Rs far u ∧ bef v = nI u ∧ 0 < (R (34 * u + v)).toInt ∧ (far u).toInt + (C (34 * u + v)).toInt ≤ (far v).toInt ∧ dep u < dep v := by
    intro v hv
    rcases h.2 v hv with e | ⟨u, a, b, c, d, f⟩
    · exact Or.inl e
    · exact Or.inr ⟨u, a, b, c, by omega, f⟩
  obtain ⟨L, -, hL, hj⟩ := hm_road_is h2 to (dep to + 1) 0 (Nat.lt_succ_self _) hto
  have hRs : ∀ j, j ≤ L → hm_Rs far (hm_p bef to j) := by
    intro j hj1
    cases j with
    | zero => exact hto
    | succ j => exact (hj j (Nat.zero_le _) (by omega)).2.1
  have hdep : ∀ j, j ≤ L → dep (hm_p bef to j) + j ≤ dep to := by
    intro j
    induction j with
    | zero => exact fun _ => Nat.le_refl _
    | succ j ih =>
      intro hj1
      have a := ih (by omega)
      have b := (hj j (Nat.zero_le _) (by omega)).2.2.2.1
      omega
  refine ⟨L, ?_, ⟨hL, hto.1, fun j hj1 => ?_⟩, fun j hj1 => ?_⟩
  · have a := hdep L (Nat.le_refl _)
    have b := h.1 to
    omega
  · obtain ⟨a, b, c, d, e⟩ := hj j (Nat.zero_le _) hj1
    exact ⟨a, b.1, c, d, e⟩
  · refine ⟨hRs j (by omega), ?_⟩
    obtain ⟨a, b, c, d, e⟩ := hj j (Nat.zero_le _) hj1
    rcases h.2 _ (hRs j (by omega)) with q | ⟨u, u1, u2, u3, u4, u5⟩
    · exact absurd q a
    · have eu : u = hm_p bef to (j + 1) := by
        show u = (bef (hm_p bef to j)).toNatClampNeg
        rw [u2, nI_clamp (by have := u1.1; omega)]
      rw [← eu]
      exact u4
/-- a send along tight arcs keeps the rests' bounds -/
theorem hm_sent_rb {R0 : Nat → Int64} {bef : Nat → Int32} {dep : Nat → Nat} {to i : Nat} {m : Int} {Rc : Nat → Int64} (hb : hm_rb R0) (h : hm_J62 R0 bef dep to i m Rc) : hm_rb Rc := by
  intro a b ha hb'
  have h1 := h.2.1 a b ha hb'
  have h2 := h.2.2.1 a b ha hb'
  have h3 := hb a b ha hb'
  exact ⟨h2, by omega⟩
theorem hm_step {R C : Nat → Int64} {pi : Nat → Int} {far : Nat → Int64} {bef : Nat → Int32} (hN : hm_Net R C pi) (hG : hm_Good R C pi 0 (far, bef)) (hlt : ¬ 4000000000000000 ≤ far 33) :
    ∃ pi', hm_Net (f_Model_send R bef 0 33).2 C pi' ∧ 0 < (f_Model_send R bef 0 33).1.toInt ∧ (f_Model_send R bef 0 33).1.toInt ≤ 1000000000000 ∧ ∃ dep L, hm_J62 R bef dep 33 L (f_Model_send R bef 0 33).1.toInt (f_Model_send R bef 0 33).2 ∧ hm_p bef 33 L = 0 := by
  obtain ⟨hpot, hcb, hrb, hanti, hz, hpv⟩ := id hN
  have hpb := hN.pb
  rw [h64_le, h64_nev] at hlt
  have hI : hm_Iv R C pi 0 far bef := hG.1
  have hNR : ∀ a b, a < 34 → b < 34 → hm_NR R C far a b := hG.2
  obtain ⟨dep, htree⟩ : ∃ dep, hm_tree R C 0 far bef dep := hm_Good.tree hcb hpb (by decide) hG
  obtain ⟨L, hL, hroad, hti⟩ := htree.road (to := 33) ⟨by decide, by omega⟩
  have hS := hm_send hroad hrb hL
  have h33 := hI.2.1 33 (by decide)
  have h0 := hI.1
  have hD : pi 33 ≤ (far 33).toInt := by omega
  -- on the road nobody is farther than the end, by the potential
  have hpsi : ∀ j, j ≤ L → (far (hm_p bef 33 j)).toInt - pi (hm_p bef 33 j) ≤ (far 33).toInt - pi 33 := by
    intro j
    induction j with
    | zero => exact fun _ => Int.le_refl _
    | succ j ih =>
      intro hj
      have a := ih (by omega)
      have b := (hti j (by omega)).2
      have c := hroad.2.2 j (by omega)
      have d := hpot _ _ c.2.1 (hm_road_lt hroad j (by omega)) c.2.2.2.2
      omega
  refine ⟨fun v => if (far v).toInt ≤ pi v + ((far 33).toInt - pi 33) then (far v).toInt else pi v + ((far 33).toInt - pi 33), ⟨?_, hcb, hm_sent_rb hrb hS.2.2, hanti, ?_, ?_⟩, hS.1, hS.2.1, dep, L, hS.2.2, hroad.1⟩
  · intro a b ha hb hpos
    have hpa := hpv a ha
    have hpbv := hpv b hb
    have h3 := hpv 33 (by decide)
    have hmb : (if (far b).toInt ≤ pi b + ((far 33).toInt - pi 33) then (far b).toInt else pi b + ((far 33).toInt - pi 33)) ≤ (far b).toInt ∧ (if (far b).toInt ≤ pi b + ((far 33).toInt - pi 33) then (far b).toInt else pi b + ((far 33).toInt - pi 33)) ≤ pi b + ((far 33).toInt - pi 33) := by
      by_cases c : (far b).toInt ≤ pi b + ((far 33).toInt - pi 33)
      · rw [if_pos c]; omega
      · rw [if_neg c]; omega
    show (if (far b).toInt ≤ pi b + ((far 33).toInt - pi 33) then (far b).toInt else pi b + ((far 33).toInt - pi 33)) ≤ (if (far a).toInt ≤ pi a + ((far 33).toInt - pi 33) then (far a).toInt else pi a + ((far 33).toInt - pi 33)) + (C (34 * a + b)).toInt
    generalize (if (far b).toInt ≤ pi b + ((far 33).toInt - pi 33) then (far b).toInt else pi b + ((far 33).toInt - pi 33)) = pb at hmb ⊢
    rcases hS.2.2.2.2.2.1 a b ha hb hpos with hold | ⟨j, hj, ea, eb⟩
    · have hp := hpot a b ha hb hold
      by_cases c : (far a).toInt ≤ pi a + ((far 33).toInt - pi 33)
      · rw [if_pos c]
        have hnr := hNR a b ha hb
        have hc := hcb (34 * a + b) (by omega)
        have hlow := hI.2.1 a ha
        have hadd : (far a + C (34 * a + b)).toInt = (far a).toInt + (C (34 * a + b)).toInt := h64_add (by omega) (by omega)
        have hle2 := hnr (by rw [h64_le, h64_nev]; show ¬ 4000000000000000 ≤ (far a).toInt; omega) (by rw [h64_le, h64_0]; omega)
        rw [h64_le] at hle2
        have hle3 : (far b).toInt ≤ (far a + C (34 * a + b)).toInt := hle2
        omega
      · rw [if_neg c]
        omega
    · have hta := (hti j hj).2
      have hpj := hpsi j (by omega)
      have han := hanti a b ha hb
      rw [← ea, ← eb] at hta
      rw [← ea] at hpj
      rw [if_pos (by omega)]
      omega
  · show (if (far 0).toInt ≤ pi 0 + ((far 33).toInt - pi 33) then (far 0).toInt else pi 0 + ((far 33).toInt - pi 33)) = 0
    rw [if_pos (by omega)]
    exact h0
  · intro v hv
    have hpa := hpv v hv
    have hlow := hI.2.1 v hv
    have e33 : (if (far 33).toInt ≤ pi 33 + ((far 33).toInt - pi 33) then (far 33).toInt else pi 33 + ((far 33).toInt - pi 33)) = (far 33).toInt := if_pos (by omega)
    show 0 ≤ (if (far v).toInt ≤ pi v + ((far 33).toInt - pi 33) then (far v).toInt else pi v + ((far 33).toInt - pi 33)) ∧ (if (far v).toInt ≤ pi v + ((far 33).toInt - pi 33) then (far v).toInt else pi v + ((far 33).toInt - pi 33)) ≤ (if (far 33).toInt ≤ pi 33 + ((far 33).toInt - pi 33) then (far 33).toInt else pi 33 + ((far 33).toInt - pi 33)) ∧ (if (far v).toInt ≤ pi v + ((far 33).toInt - pi 33) then (far v).toInt else pi v + ((far 33).toInt - pi 33)) ≤ 4000000000000000
    rw [e33]
    have hl2 : (far v).toInt = 4000000000000000 ∨ ((far v).toInt < 4000000000000000 ∧ pi v - pi 0 ≤ (far v).toInt) := hlow
    by_cases c : (far v).toInt ≤ pi v + ((far 33).toInt - pi 33)
    · rw [if_pos c]
      omega
    · rw [if_neg c]
      omega
theorem hm_ho {R : Nat → Int64} (h : hm_rb R) {w : Nat} (hw : w < 34) : 0 ≤ ho R w ∧ ho R w ≤ 34000000000000000 := by
  have h1 : hs (fun _ => (0 : Int)) 34 ≤ ho R w := hs_le (fun b hb => (h w b hw hb).1)
  have h2 : ho R w ≤ hs (fun _ => (1000000000000000 : Int)) 34 := hs_le (fun b hb => by
    have a := h w b hw hb
    have c := h b w hb hw
    show (R (34 * w + b)).toInt ≤ 1000000000000000
    omega)
  rw [hs_zero (fun _ _ => rfl)] at h1
  rw [hs_const] at h2
  exact ⟨h1, by omega⟩
theorem hm_rsc {R C : Nat → Int64} {src : Nat} {far : Nat → Int64} {bef : Nat → Int32} {dep : Nat → Nat} (h : hm_tree R C src far bef dep) : ∀ v, hm_Rs far v → v < 34 ∧ dep v < 1000 ∧ (v = src ∨ ∃ u0, bef v = nI u0 ∧ hm_Rs far u0 ∧ dep u0 < dep v) := by
  intro v hv
  refine ⟨hv.1, h.1 v, ?_⟩
  rcases h.2 v hv with e | ⟨u, a, b, -, -, f⟩
  · exact Or.inl e
  · exact Or.inr ⟨u, b, a, f⟩
theorem hm_rs_of {far : Nat → Int64} {v : Nat} (hv : v < 34) (h : ¬ 4000000000000000 ≤ far v) : hm_Rs far v := by
  rw [h64_le, h64_nev] at h
  exact ⟨hv, by omega⟩
def f_Model_sendAll_h7B (LM14 : Nat → Int64) (k_7 : (Int64) → (Nat → Int64) → (Nat → Int64) → (Nat → Int32) → Int64 × (Nat → Int64) × (Nat → Int64) × (Nat → Int32)) (rec_7 : (Int64) → (Nat → Int64) → (Nat → Int64) → (Nat → Int32) → Int64 × (Nat → Int64) × (Nat → Int64) × (Nat → Int32)) (x1_7 : Int64) (LM13_7 : Nat → Int64) (LM15_7 : Nat → Int64) (IM3_7 : Nat → Int32) : Int64 × (Nat → Int64) × (Nat → Int64) × (Nat → Int32) :=
  if 4000000000000000 ≤ (LM15_7 33) then (k_7 x1_7 LM13_7 LM15_7 IM3_7) else (hh_bind (f_Model_send LM13_7 IM3_7 0 33) (fun y26 => hh_bind (f_Model_measure y26.2 LM14 LM15_7 IM3_7 0) (fun y33 => rec_7 (x1_7 + y26.1) y26.2 y33.1 y33.2)))
def f_Model_sendAll_h7 (LM14 : Nat → Int64) (k_7 : (Int64) → (Nat → Int64) → (Nat → Int64) → (Nat → Int32) → Int64 × (Nat → Int64) × (Nat → Int64) × (Nat → Int32)) : Nat → (Int64) → (Nat → Int64) → (Nat → Int64) → (Nat → Int32) → Int64 × (Nat → Int64) × (Nat → Int64) × (Nat → Int32)
  | 0, x1_7, LM13_7, LM15_7, IM3_7 => k_7 x1_7 LM13_7 LM15_7 IM3_7
  | n + 1, x1_7, LM13_7, LM15_7, IM3_7 => f_Model_sendAll_h7B LM14 k_7 (fun x1_7 LM13_7 LM15_7 IM3_7 => f_Model_sendAll_h7 LM14 k_7 n x1_7 LM13_7 LM15_7 IM3_7) x1_7 LM13_7 LM15_7 IM3_7
def f_Model_sendAll_x7  (x1_7 : Int64) (LM13_7 : Nat → Int64) (LM15_7 : Nat → Int64) (IM3_7 : Nat → Int32) : Int64 × (Nat → Int64) × (Nat → Int64) × (Nat → Int32) :=
  (x1_7, LM13_7, LM15_7, IM3_7)
def f_Model_sendAll (LM13 : Nat → Int64) (LM14 : Nat → Int64) (LM15 : Nat → Int64) (IM3 : Nat → Int32) : Int64 × (Nat → Int64) × (Nat → Int64) × (Nat → Int32) :=
  hh_bind (f_Model_measure LM13 LM14 LM15 IM3 0) (fun y4 => f_Model_sendAll_h7 LM14 f_Model_sendAll_x7 100000000000000000000 0 LM13 y4.1 y4.2)
set_option maxHeartbeats 4000000 in
set_option maxRecDepth 100000 in
theorem c_Model_sendAll (l : Launch) (dC : Nat → ClassId) (dI : Nat → Nat → Nat) (cI cJ cZ : ClassId) (sz : Nat) (aM : Nat → Nat) (VM0 : Nat) (VM1 : Nat) (VM2 : Nat) (VM3 : Nat) (VM4 : Nat) (VM5 : Nat) (WM0 : Int64) (NM0 : Nat → Nat) (NM1 : Nat → Nat) (NM2 : Nat → Nat) (LM0 : Nat → Int64) (LM1 : Nat → Int64) (LM2 : Nat → Int64) (LM3 : Nat → Int64) (LM4 : Nat → Int64) (LM5 : Nat → Int64) (LM6 : Nat → Int64) (LM7 : Nat → Int64) (LM8 : Nat → Int64) (LM9 : Nat → Int64) (LM10 : Nat → Int64) (LM11 : Nat → Int64) (LM12 : Nat → Int64) (LM13 : Nat → Int64) (LM14 : Nat → Int64) (LM15 : Nat → Int64) (IM0 : Nat → Int32) (IM1 : Nat → Int32) (IM2 : Nat → Int32) (IM3 : Nat → Int32) (pi : Nat → Int) (hnet : hm_Net LM13 LM14 pi) : hh_Cl l y_Model_sendAll u_Model_sendAll ({ frames := 1, cells := 0, slots := 0, locals := 27 }) (dC, dI) vwCl [(cI, .int), (cJ, .long), (cZ, .boolean)] (w_M cI cJ cZ aM VM0 VM1 VM2 VM3 VM4 VM5 WM0 NM0 NM1 NM2 LM0 LM1 LM2 LM3 LM4 LM5 LM6 LM7 LM8 LM9 LM10 LM11 LM12 LM13 LM14 LM15 IM0 IM1 IM2 IM3) sz [.ref (aM 0)] ((f_Model_sendAll LM13 LM14 LM15 IM3).1) (w_M cI cJ cZ aM VM0 VM1 VM2 VM3 VM4 VM5 WM0 NM0 NM1 NM2 LM0 LM1 LM2 LM3 LM4 LM5 LM6 LM7 LM8 LM9 LM10 LM11 LM12 ((f_Model_sendAll LM13 LM14 LM15 IM3).2.1) LM14 ((f_Model_sendAll LM13 LM14 LM15 IM3).2.2.1) IM0 IM1 IM2 ((f_Model_sendAll LM13 LM14 LM15 IM3).2.2.2)) 0 0 := by
  unfold hh_Cl
  refine Met.ofW (cc := b_Model_sendAll) (maxL := 3) (ret := (some .long)) (by decide) rfl ?_
  intro p e s m args below meth c s₁ B hml hv
  obtain ⟨rfl, hsz, hP, hK, hD0⟩ := hv
  have hx := B.exec
  have hb := B.bytes
  have hr := B.returns
  have hts := atoms_spec (ws := u_Model_sendAll) B.pre
  have hG : ∀ w ∈ wG, w.before ([.ref (aM 0)]).toArray s = true := fun w h => hts w (List.mem_cons_of_mem _ h)
  have hown : s.vm.findClass R_Model = some m.cls := findClass_of_methodNamed B.named
  have hlocks := B.notSynchronized
  subst hsz
  have hD := hD0.self (sz := s.heap.size)
  generalize hAe : va_A (w_M cI cJ cZ aM VM0 VM1 VM2 VM3 VM4 VM5 WM0 NM0 NM1 NM2 LM0 LM1 LM2 LM3 LM4 LM5 LM6 LM7 LM8 LM9 LM10 LM11 LM12 LM13 LM14 LM15 IM0 IM1 IM2 IM3) s.heap.size = A at hD ⊢
  have hA : ∀ q : Nat, s.heap.size ≤ q → A q := fun q h => by rw [← hAe]; exact Or.inr h
  have hS : va_S A s.heap s.heap [] := va_S.rf
  have hl := lv_entry ([.ref (aM 0)]) (n := 3) (Nat.le_of_ble_eq_true rfl)
  rw [lg_entry_eq]
  generalize (lg_sl ([.ref (aM 0)]) ++ List.replicate (3 - (lg_sl ([.ref (aM 0)])).length) Slot.unset).toArray = ls at hl ⊢
  have hl : lv_has ls 3 [(0, .ref (aM 0))] := hl
  generalize hR : f_Model_sendAll LM13 LM14 LM15 IM3 = r0
  obtain ⟨H, locs, hHe, hle⟩ : ∃ (H : Heap) (locs : List Loc), s.heap = H ∧ [] = locs := ⟨_, _, rfl, rfl⟩
  have hP : va_P (dC, dI) vwCl (w_M cI cJ cZ aM VM0 VM1 VM2 VM3 VM4 VM5 WM0 NM0 NM1 NM2 LM0 LM1 LM2 LM3 LM4 LM5 LM6 LM7 LM8 LM9 LM10 LM11 LM12 LM13 LM14 LM15 IM0 IM1 IM2 IM3) H := by rw [← hHe]; exact hP
  have hS : va_S A s.heap H locs := by rw [← hHe, ← hle]; exact hS
  refine hw_start hHe hle ?_
  unfold f_Model_sendAll at hR
  refine lv_lconst (v := 0) hx hb d_Model_sendAll_0 (by decide) ?_
  refine lv_lstore_n (lv' := [(1, .long 0), (0, .ref (aM 0))]) hx hb d_Model_sendAll_1 rfl hl (by decide) rfl (fun ls hl => ?_)
  refine lv_aload_n hx hb d_Model_sendAll_2 rfl (lv_at hl 1 rfl) ?_
  refine lv_iconst (v := nI 0) hx hb d_Model_sendAll_3 (by decide) ?_
  obtain ⟨y4, hy4, hR⟩ := hw_bind hR
  have hM := c_Model_measure l dC dI cI cJ cZ H.size aM VM0 VM1 VM2 VM3 VM4 VM5 WM0 NM0 NM1 NM2 LM0 LM1 LM2 LM3 LM4 LM5 LM6 LM7 LM8 LM9 LM10 LM11 LM12 LM13 LM14 LM15 IM0 IM1 IM2 IM3 0 (by first | assumption | omega) hm_mu (hm_Iv LM13 LM14 pi 0) (fun _ _ _ _ => hm_relax hnet.1 hnet.2.1 hnet.pb (by decide)) (fun far bef h _ => hm_init (by decide) far bef h)
  rw [hy4] at hM
  refine hw_callVv (As := [.int (nI 0)]) (rest := []) (wr := ([] : va_W)) ⟨hx, hb, hml, hown, hG⟩ hM (hw_cwV 1 hG m_781 m_783 mp_27 m_7 m_784 rfl rfl (by decide +kernel) ⟨Nat.le_of_ble_eq_true rfl, Nat.le_of_ble_eq_true rfl⟩) hK hP hD hS hA [0, 1, 2, 3, 4, 5, 6, 7, 8, 9, 10, 11, 12, 13, 14, 15, 16, 17, 18, 19, 20, 21, 22, 23] [] rfl rfl (by decide) (by decide) (by decide) (hw_recv hK hP 0 rfl rfl) rfl hl.1 rfl (Nat.le_of_ble_eq_true rfl) d_Model_sendAll_4 ⟨Nat.le_of_ble_eq_true rfl, Nat.le_of_ble_eq_true rfl⟩ (fun H locs hP hD hS => ?_)
  have hP : va_P (dC, dI) vwCl (w_M cI cJ cZ aM VM0 VM1 VM2 VM3 VM4 VM5 WM0 NM0 NM1 NM2 LM0 LM1 LM2 LM3 LM4 LM5 LM6 LM7 LM8 LM9 LM10 LM11 LM12 LM13 LM14 y4.1 IM0 IM1 IM2 y4.2) H := hP
  have hD : va_D A (w_M cI cJ cZ aM VM0 VM1 VM2 VM3 VM4 VM5 WM0 NM0 NM1 NM2 LM0 LM1 LM2 LM3 LM4 LM5 LM6 LM7 LM8 LM9 LM10 LM11 LM12 LM13 LM14 y4.1 IM0 IM1 IM2 y4.2) := hD
  have hgd0 := hm_measure hnet.1 hnet.2.1 hnet.pb (show 0 < 34 by decide) LM15 IM3
  rw [hy4] at hgd0
  have hho0 := hm_ho hnet.2.2.1 (show 0 < 34 by decide)
  obtain ⟨k_7, hk_7, hR⟩ : ∃ k, f_Model_sendAll_x7 = k ∧ f_Model_sendAll_h7 LM14 k 100000000000000000000 0 LM13 y4.1 y4.2 = r0 := ⟨_, rfl, hR⟩
  have X_7 : ∀ (x1_7 : Int64) (LM13_7 : Nat → Int64) (LM15_7 : Nat → Int64) (IM3_7 : Nat → Int32) (hpi : ∃ pi, hm_Net LM13_7 LM14 pi ∧ hm_Good LM13_7 LM14 pi 0 (LM15_7, IM3_7)) (H : Heap) (locs : List Loc) (hP : va_P (dC, dI) vwCl (w_M cI cJ cZ aM VM0 VM1 VM2 VM3 VM4 VM5 WM0 NM0 NM1 NM2 LM0 LM1 LM2 LM3 LM4 LM5 LM6 LM7 LM8 LM9 LM10 LM11 LM12 LM13_7 LM14 LM15_7 IM0 IM1 IM2 IM3_7) H) (hD : va_D A (w_M cI cJ cZ aM VM0 VM1 VM2 VM3 VM4 VM5 WM0 NM0 NM1 NM2 LM0 LM1 LM2 LM3 LM4 LM5 LM6 LM7 LM8 LM9 LM10 LM11 LM12 LM13_7 LM14 LM15_7 IM0 IM1 IM2 IM3_7)) (hS : va_S A s.heap H locs) (ls : Array Slot) (hl : lv_has ls 3 [(0, .ref (aM 0)), (1, .long x1_7)]) (hR : k_7 x1_7 LM13_7 LM15_7 IM3_7 = r0), W p l e (headSpec u_Model_sendAll ({ frames := 1, cells := 0, slots := 0, locals := 27 })).room s m ([.ref (aM 0)]).toArray below meth c H locs 0 0 (hh_Zl below (dC, dI) vwCl [(cI, .int), (cJ, .long), (cZ, .boolean)] A r0.1 (w_M cI cJ cZ aM VM0 VM1 VM2 VM3 VM4 VM5 WM0 NM0 NM1 NM2 LM0 LM1 LM2 LM3 LM4 LM5 LM6 LM7 LM8 LM9 LM10 LM11 LM12 r0.2.1 LM14 r0.2.2.1 IM0 IM1 IM2 r0.2.2.2) ([.ref (aM 0)]).toArray s) (F0 m 39 ls []) := by
    intro x1_7 LM13_7 LM15_7 IM3_7 hpi H locs hP hD hS ls hl hR
    rw [← hk_7] at hR
    unfold f_Model_sendAll_x7 at hR
    refine lv_lload_n hx hb d_Model_sendAll_39 rfl (lv_at hl 1 rfl) ?_
    subst hR
    exact W.lret (v := x1_7) hx hb hr (fun t ht hW => ⟨⟨_, (), rfl, rfl, by rw [ht]; exact hP, va_K.moved hW.alike hK, hD⟩, hS.F ht⟩) hS.2.2 d_Model_sendAll_40
  have L_7 : ∀ (n : Nat) (x1_7 : Int64) (LM13_7 : Nat → Int64) (LM15_7 : Nat → Int64) (IM3_7 : Nat → Int32) (hpi : ∃ pi, hm_Net LM13_7 LM14 pi ∧ hm_Good LM13_7 LM14 pi 0 (LM15_7, IM3_7)) (hfu : (ho LM13_7 0).toNat < n) (H : Heap) (locs : List Loc) (hP : va_P (dC, dI) vwCl (w_M cI cJ cZ aM VM0 VM1 VM2 VM3 VM4 VM5 WM0 NM0 NM1 NM2 LM0 LM1 LM2 LM3 LM4 LM5 LM6 LM7 LM8 LM9 LM10 LM11 LM12 LM13_7 LM14 LM15_7 IM0 IM1 IM2 IM3_7) H) (hD : va_D A (w_M cI cJ cZ aM VM0 VM1 VM2 VM3 VM4 VM5 WM0 NM0 NM1 NM2 LM0 LM1 LM2 LM3 LM4 LM5 LM6 LM7 LM8 LM9 LM10 LM11 LM12 LM13_7 LM14 LM15_7 IM0 IM1 IM2 IM3_7)) (hS : va_S A s.heap H locs) (ls : Array Slot) (hl : lv_has ls 3 [(0, .ref (aM 0)), (1, .long x1_7)]) (hR : f_Model_sendAll_h7 LM14 k_7 n x1_7 LM13_7 LM15_7 IM3_7 = r0), W p l e (headSpec u_Model_sendAll ({ frames := 1, cells := 0, slots := 0, locals := 27 })).room s m ([.ref (aM 0)]).toArray below meth c H locs 0 0 (hh_Zl below (dC, dI) vwCl [(cI, .int), (cJ, .long), (cZ, .boolean)] A r0.1 (w_M cI cJ cZ aM VM0 VM1 VM2 VM3 VM4 VM5 WM0 NM0 NM1 NM2 LM0 LM1 LM2 LM3 LM4 LM5 LM6 LM7 LM8 LM9 LM10 LM11 LM12 r0.2.1 LM14 r0.2.2.1 IM0 IM1 IM2 r0.2.2.2) ([.ref (aM 0)]).toArray s) (F0 m 7 ls []) := by
    intro n
    induction n with
    | zero =>
      intro x1_7 LM13_7 LM15_7 IM3_7 hpi hfu H locs hP hD hS ls hl hR
      exact absurd hfu (Nat.not_lt_zero _)
    | succ n ih_7 =>
      intro x1_7 LM13_7 LM15_7 IM3_7 hpi hfu H locs hP hD hS ls hl hR
      rw [f_Model_sendAll_h7] at hR
      obtain ⟨rec_7, hrec_7, hR⟩ : ∃ r, r = _ ∧ f_Model_sendAll_h7B LM14 k_7 r x1_7 LM13_7 LM15_7 IM3_7 = r0 := ⟨_, rfl, hR⟩
      unfold f_Model_sendAll_h7B at hR
      refine lv_aload_n hx hb d_Model_sendAll_7 rfl (lv_at hl 0 rfl) ?_
      refine va_get (D := (dC, dI)) (ci := 5) (v := .ref (aM 22)) (C := R_Model) (T := T_Model) (N := 30) hx hb hG in_Model hown hK hP 0 rfl rfl 28 (by decide) (hG _ m_642) (fun _ h9 => h9) rfl d_Model_sendAll_8 ?_
      refine lv_bipush (v := nI 33) hx hb d_Model_sendAll_11 (by decide) ?_
      refine hw_lald (f := LM15_7) hx hb hK hP 22 1 rfl rfl (by decide) (by omega) d_Model_sendAll_13 ?_
      refine lv_ldc2 (v := 4000000000000000) hx hb hown (hG _ m_785) d_Model_sendAll_14 ?_
      refine hw_lcmp_ge (tgt := 39) hx hb d_Model_sendAll_17 d_Model_sendAll_18 (by decide) (fun c17 => ?_) (fun c17 => ?_)
      · replace hR := (if_pos c17).symm.trans hR
        exact X_7 x1_7 LM13_7 LM15_7 IM3_7 (by first | assumption | omega | exact hw_upb (by assumption) (by omega)) H locs hP hD hS ls (lv_sub hl [0, 1] rfl) hR
      · replace hR := (if_neg c17).symm.trans hR
        obtain ⟨pi1, hnet1, hgood1⟩ := hpi
        obtain ⟨dep1, htr1⟩ := hm_Good.tree hnet1.2.1 hnet1.pb (by decide) hgood1
        refine lv_lload_n hx hb d_Model_sendAll_21 rfl (lv_at hl 1 rfl) ?_
        refine lv_aload_n hx hb d_Model_sendAll_22 rfl (lv_at hl 0 rfl) ?_
        refine lv_iconst (v := nI 0) hx hb d_Model_sendAll_23 (by decide) ?_
        refine lv_bipush (v := nI 33) hx hb d_Model_sendAll_24 (by decide) ?_
        obtain ⟨y26, hy26, hR⟩ := hw_bind hR
        have hM := c_Model_send l dC dI cI cJ cZ H.size aM VM0 VM1 VM2 VM3 VM4 VM5 WM0 NM0 NM1 NM2 LM0 LM1 LM2 LM3 LM4 LM5 LM6 LM7 LM8 LM9 LM10 LM11 LM12 LM13_7 LM14 LM15_7 IM0 IM1 IM2 IM3_7 0 33 (by first | assumption | omega) (hm_Rs LM15_7) dep1 (hm_rsc htr1) (hm_rs_of (by decide) c17)
        rw [hy26] at hM
        refine hw_callVl (As := [.int (nI 0), .int (nI 33)]) (rest := [.long x1_7]) (wr := ([] : va_W)) ⟨hx, hb, hml, hown, hG⟩ hM (hw_cwV 2 hG m_786 m_788 mp_28 m_7 m_789 rfl rfl (by decide +kernel) ⟨Nat.le_of_ble_eq_true rfl, Nat.le_of_ble_eq_true rfl⟩) hK hP hD hS hA [0, 1, 2, 3, 4, 5, 6, 7, 8, 9, 10, 11, 12, 13, 14, 15, 16, 17, 18, 19, 20, 21, 22, 23] [] rfl rfl (by decide) (by decide) (by decide) (hw_recv hK hP 0 rfl rfl) rfl hl.1 rfl (Nat.le_of_ble_eq_true rfl) d_Model_sendAll_26 ⟨Nat.le_of_ble_eq_true rfl, Nat.le_of_ble_eq_true rfl⟩ (fun H locs hP hD hS => ?_)
        have hP : va_P (dC, dI) vwCl (w_M cI cJ cZ aM VM0 VM1 VM2 VM3 VM4 VM5 WM0 NM0 NM1 NM2 LM0 LM1 LM2 LM3 LM4 LM5 LM6 LM7 LM8 LM9 LM10 LM11 LM12 y26.2 LM14 LM15_7 IM0 IM1 IM2 IM3_7) H := hP
        have hD : va_D A (w_M cI cJ cZ aM VM0 VM1 VM2 VM3 VM4 VM5 WM0 NM0 NM1 NM2 LM0 LM1 LM2 LM3 LM4 LM5 LM6 LM7 LM8 LM9 LM10 LM11 LM12 y26.2 LM14 LM15_7 IM0 IM1 IM2 IM3_7) := hD
        obtain ⟨pi2, hnet2, hm0, hm1, dep2, L2, hJ2, hp2⟩ := hm_step hnet1 hgood1 c17
        rw [hy26] at hnet2 hm0 hm1 hJ2
        have hho := hJ2.1 0 (by decide)
        rw [hp2, if_neg (by decide), if_pos rfl] at hho
        have hho1 := hm_ho hnet2.2.2.1 (show 0 < 34 by decide)
        refine lv_ladd hx hb d_Model_sendAll_29 ?_
        refine lv_lstore_n (lv' := [(1, .long (x1_7 + y26.1)), (0, .ref (aM 0))]) hx hb d_Model_sendAll_30 rfl hl (by decide) rfl (fun ls hl => ?_)
        refine lv_aload_n hx hb d_Model_sendAll_31 rfl (lv_at hl 1 rfl) ?_
        refine lv_iconst (v := nI 0) hx hb d_Model_sendAll_32 (by decide) ?_
        obtain ⟨y33, hy33, hR⟩ := hw_bind hR
        have hM := c_Model_measure l dC dI cI cJ cZ H.size aM VM0 VM1 VM2 VM3 VM4 VM5 WM0 NM0 NM1 NM2 LM0 LM1 LM2 LM3 LM4 LM5 LM6 LM7 LM8 LM9 LM10 LM11 LM12 y26.2 LM14 LM15_7 IM0 IM1 IM2 IM3_7 0 (by first | assumption | omega) hm_mu (hm_Iv y26.2 LM14 pi2 0) (fun _ _ _ _ => hm_relax hnet2.1 hnet2.2.1 hnet2.pb (by decide)) (fun far bef h _ => hm_init (by decide) far bef h)
        rw [hy33] at hM
        refine hw_callVv (As := [.int (nI 0)]) (rest := []) (wr := ([] : va_W)) ⟨hx, hb, hml, hown, hG⟩ hM (hw_cwV 1 hG m_781 m_783 mp_27 m_7 m_784 rfl rfl (by decide +kernel) ⟨Nat.le_of_ble_eq_true rfl, Nat.le_of_ble_eq_true rfl⟩) hK hP hD hS hA [0, 1, 2, 3, 4, 5, 6, 7, 8, 9, 10, 11, 12, 13, 14, 15, 16, 17, 18, 19, 20, 21, 22, 23] [] rfl rfl (by decide) (by decide) (by decide) (hw_recv hK hP 0 rfl rfl) rfl hl.1 rfl (Nat.le_of_ble_eq_true rfl) d_Model_sendAll_33 ⟨Nat.le_of_ble_eq_true rfl, Nat.le_of_ble_eq_true rfl⟩ (fun H locs hP hD hS => ?_)
        have hP : va_P (dC, dI) vwCl (w_M cI cJ cZ aM VM0 VM1 VM2 VM3 VM4 VM5 WM0 NM0 NM1 NM2 LM0 LM1 LM2 LM3 LM4 LM5 LM6 LM7 LM8 LM9 LM10 LM11 LM12 y26.2 LM14 y33.1 IM0 IM1 IM2 y33.2) H := hP
        have hD : va_D A (w_M cI cJ cZ aM VM0 VM1 VM2 VM3 VM4 VM5 WM0 NM0 NM1 NM2 LM0 LM1 LM2 LM3 LM4 LM5 LM6 LM7 LM8 LM9 LM10 LM11 LM12 y26.2 LM14 y33.1 IM0 IM1 IM2 y33.2) := hD
        have hgd := hm_measure hnet2.1 hnet2.2.1 hnet2.pb (show 0 < 34 by decide) LM15_7 IM3_7
        rw [hy33] at hgd
        refine lv_goto (tgt := 7) hx hb d_Model_sendAll_36 (by decide) ?_
        rw [hrec_7] at hR
        exact ih_7 (x1_7 + y26.1) y26.2 y33.1 y33.2 (by exact ⟨pi2, hnet2, hgd⟩) (by omega) H locs hP hD hS ls (lv_sub hl [1, 0] rfl) hR
  exact L_7 100000000000000000000 0 LM13 y4.1 y4.2 (by exact ⟨pi, hnet, hgd0⟩) (by omega) H locs hP hD hS ls (lv_sub hl [1, 0] rfl) hR
