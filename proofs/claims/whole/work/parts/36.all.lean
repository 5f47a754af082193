/-! ===== one more road: the potential goes on ===== -/
def hm_anti (C : Nat → Int64) : Prop := ∀ a b, a < 34 → b < 34 → (C (34 * a + b)).toInt = - (C (34 * b + a)).toInt
def hm_Net (R C : Nat → Int64) (pi : Nat → Int) : Prop := hm_pot R C pi ∧ hm_cb C ∧ hm_rb R ∧ hm_anti C ∧ pi 0 = 0 ∧ ∀ v, v < 34 → 0 ≤ pi v ∧ pi v ≤ pi 33 ∧ pi v ≤ 4000000000000000
theorem hm_Net.pb {R C : Nat → Int64} {pi : Nat → Int} (h : hm_Net R C pi) : hm_pb pi := fun v hv => by
  have := h.2.2.2.2.2 v hv
  exact ⟨by omega, by omega⟩
/-- the tree that send walks: each node's road up -/
def hm_tree (R C : Nat → Int64) (src : Nat) (far : Nat → Int64) (bef : Nat → Int32) (dep : Nat → Nat) : Prop := (∀ v, dep v < 1000) ∧ ∀ v, hm_Rs far v → v = src ∨ ∃ u, hm_Rs far u ∧ bef v = nI u ∧ 0 < (R (34 * u + v)).toInt ∧ (far v).toInt = (far u).toInt + (C (34 * u + v)).toInt ∧ dep u < dep v
theorem hm_Good.tree {R C : Nat → Int64} {pi : Nat → Int} {src : Nat} {r : (Nat → Int64) × (Nat → Int32)} (hcb : hm_cb C) (hpb : hm_pb pi) (hsrc : src < 34) (h : hm_Good R C pi src r) : ∃ dep, hm_tree R C src r.1 r.2 dep := by
  obtain ⟨dep, h1, h2⟩ := hm_dep h.1
  refine ⟨dep, h1, fun v hv => ?_⟩
  rcases h2 v hv with e | ⟨u, hu, e, hr, hle, hd⟩
  · exact Or.inl e
  · refine Or.inr ⟨u, hu, e, hr, ?_, hd⟩
    have hnr := h.2 u v hu.1 hv.1
    have hc := hcb (34 * u + v) (by have := hu.1; have := hv.1; omega)
    have hlow := h.1.2.1 u hu.1
    have hp1 := hpb u hu.1
    have hp2 := hpb src hsrc
    have hul := hu.2
    have hadd : (r.1 u + C (34 * u + v)).toInt = (r.1 u).toInt + (C (34 * u + v)).toInt := h64_add (by omega) (by omega)
    have hle2 := hnr (by rw [h64_le, h64_nev]; omega) (by rw [h64_le, h64_0]; omega)
    rw [h64_le, hadd] at hle2
    omega
theorem hm_tree.road {R C : Nat → Int64} {src : Nat} {far : Nat → Int64} {bef : Nat → Int32} {dep : Nat → Nat} (h : hm_tree R C src far bef dep) {to : Nat} (hto : hm_Rs far to) :
    ∃ L, L < 1000 ∧ hm_road R bef dep src to L ∧ ∀ j, j < L → hm_Rs far (hm_p bef to j) ∧ (far (hm_p bef to j)).toInt = (far (hm_p bef to (j + 1))).toInt + (C (34 * hm_p bef to (j + 1) + hm_p bef to j)).toInt := by
  have h2 : ∀ v, hm_Rs far v → v = src ∨ ∃ u, hm_Rs far u ∧ bef v = nI u ∧ 0 < (R (34 * u + v)).toInt ∧ (far u).toInt + (C (34 * u + v)).toInt ≤ (far v).toInt ∧ dep u < dep v := by
    intro v hv
    rcases h.2 v hv with e | ⟨u, a, b, c, d, f⟩
    · exact Or.inl e
    · exact Or.inr ⟨u, a, b, c, by omega, f⟩
  obtain ⟨L, -, hL, hj⟩ := hm_road_is h2 to (dep to + 1) 0 (Nat.lt_succ_self _) hto
  have hRs : ∀ j, j ≤ L → hm_Rs far (hm_p bef to j) := by
    intro j hj1
    cases j with
    | zero => exact hto
    | succ j => exact (hj j (Nat.zero_le _) (by omega)).2.1
  have hdep : ∀ j, j ≤ L → dep (hm_p bef to j) + j ≤ dep to := by
    intro j
    induction j with
    | zero => exact fun _ => Nat.le_refl _
    | succ j ih =>
      intro hj1
      have a := ih (by omega)
      have b := (hj j (Nat.zero_le _) (by omega)).2.2.2.1
      omega
  refine ⟨L, ?_, ⟨hL, hto.1, fun j hj1 => ?_⟩, fun j hj1 => ?_⟩
  · have a := hdep L (Nat.le_refl _)
    have b := h.1 to
    omega
  · obtain ⟨a, b, c, d, e⟩ := hj j (Nat.zero_le _) hj1
    exact ⟨a, b.1, c, d, e⟩
  · refine ⟨hRs j (by omega), ?_⟩
    obtain ⟨a, b, c, d, e⟩ := hj j (Nat.zero_le _) hj1
    rcases h.2 _ (hRs j (by omega)) with q | ⟨u, u1, u2, u3, u4, u5⟩
    · exact absurd q a
    · have eu : u = hm_p bef to (j + 1) := by
        show u = (bef (hm_p bef to j)).toNatClampNeg
        rw [u2, nI_clamp (by have := u1.1; omega)]
      rw [← eu]
      exact u4
/-- a send along tight arcs keeps the rests' bounds -/
theorem hm_sent_rb {R0 : Nat → Int64} {bef : Nat → Int32} {dep : Nat → Nat} {to i : Nat} {m : Int} {Rc : Nat → Int64} (hb : hm_rb R0) (h : hm_J62 R0 bef dep to i m Rc) : hm_rb Rc := by
  intro a b ha hb'
  have h1 := h.2.1 a b ha hb'
  have h2 := h.2.2.1 a b ha hb'
  have h3 := hb a b ha hb'
  exact ⟨h2, by omega⟩
theorem hm_step {R C : Nat → Int64} {pi : Nat → Int} {far : Nat → Int64} {bef : Nat → Int32} (hN : hm_Net R C pi) (hG : hm_Good R C pi 0 (far, bef)) (hlt : ¬ 4000000000000000 ≤ far 33) :
    ∃ pi', hm_Net (f_Model_send R bef 0 33).2 C pi' ∧ 0 < (f_Model_send R bef 0 33).1.toInt ∧ (f_Model_send R bef 0 33).1.toInt ≤ 1000000000000 ∧ ∃ dep L, hm_J62 R bef dep 33 L (f_Model_send R bef 0 33).1.toInt (f_Model_send R bef 0 33).2 ∧ hm_p bef 33 L = 0 := by
  obtain ⟨hpot, hcb, hrb, hanti, hz, hpv⟩ := id hN
  have hpb := hN.pb
  rw [h64_le, h64_nev] at hlt
  have hI : hm_Iv R C pi 0 far bef := hG.1
  have hNR : ∀ a b, a < 34 → b < 34 → hm_NR R C far a b := hG.2
  obtain ⟨dep, htree⟩ : ∃ dep, hm_tree R C 0 far bef dep := hm_Good.tree hcb hpb (by decide) hG
  obtain ⟨L, hL, hroad, hti⟩ := htree.road (to := 33) ⟨by decide, by omega⟩
  have hS := hm_send hroad hrb hL
  have h33 := hI.2.1 33 (by decide)
  have h0 := hI.1
  have hD : pi 33 ≤ (far 33).toInt := by omega
  -- on the road nobody is farther than the end, by the potential
  have hpsi : ∀ j, j ≤ L → (far (hm_p bef 33 j)).toInt - pi (hm_p bef 33 j) ≤ (far 33).toInt - pi 33 := by
    intro j
    induction j with
    | zero => exact fun _ => Int.le_refl _
    | succ j ih =>
      intro hj
      have a := ih (by omega)
      have b := (hti j (by omega)).2
      have c := hroad.2.2 j (by omega)
      have d := hpot _ _ c.2.1 (hm_road_lt hroad j (by omega)) c.2.2.2.2
      omega
  refine ⟨fun v => if (far v).toInt ≤ pi v + ((far 33).toInt - pi 33) then (far v).toInt else pi v + ((far 33).toInt - pi 33), ⟨?_, hcb, hm_sent_rb hrb hS.2.2, hanti, ?_, ?_⟩, hS.1, hS.2.1, dep, L, hS.2.2, hroad.1⟩
  · intro a b ha hb hpos
    have hpa := hpv a ha
    have hpbv := hpv b hb
    have h3 := hpv 33 (by decide)
    have hmb : (if (far b).toInt ≤ pi b + ((far 33).toInt - pi 33) then (far b).toInt else pi b + ((far 33).toInt - pi 33)) ≤ (far b).toInt ∧ (if (far b).toInt ≤ pi b + ((far 33).toInt - pi 33) then (far b).toInt else pi b + ((far 33).toInt - pi 33)) ≤ pi b + ((far 33).toInt - pi 33) := by
      by_cases c : (far b).toInt ≤ pi b + ((far 33).toInt - pi 33)
      · rw [if_pos c]; omega
      · rw [if_neg c]; omega
    show (if (far b).toInt ≤ pi b + ((far 33).toInt - pi 33) then (far b).toInt else pi b + ((far 33).toInt - pi 33)) ≤ (if (far a).toInt ≤ pi a + ((far 33).toInt - pi 33) then (far a).toInt else pi a + ((far 33).toInt - pi 33)) + (C (34 * a + b)).toInt
    generalize (if (far b).toInt ≤ pi b + ((far 33).toInt - pi 33) then (far b).toInt else pi b + ((far 33).toInt - pi 33)) = pb at hmb ⊢
    rcases hS.2.2.2.2.2.1 a b ha hb hpos with hold | ⟨j, hj, ea, eb⟩
    · have hp := hpot a b ha hb hold
      by_cases c : (far a).toInt ≤ pi a + ((far 33).toInt - pi 33)
      · rw [if_pos c]
        have hnr := hNR a b ha hb
        have hc := hcb (34 * a + b) (by omega)
        have hlow := hI.2.1 a ha
        have hadd : (far a + C (34 * a + b)).toInt = (far a).toInt + (C (34 * a + b)).toInt := h64_add (by omega) (by omega)
        have hle2 := hnr (by rw [h64_le, h64_nev]; show ¬ 4000000000000000 ≤ (far a).toInt; omega) (by rw [h64_le, h64_0]; omega)
        rw [h64_le] at hle2
        have hle3 : (far b).toInt ≤ (far a + C (34 * a + b)).toInt := hle2
        omega
      · rw [if_neg c]
        omega
    · have hta := (hti j hj).2
      have hpj := hpsi j (by omega)
      have han := hanti a b ha hb
      rw [← ea, ← eb] at hta
      rw [← ea] at hpj
      rw [if_pos (by omega)]
      omega
  · show (if (far 0).toInt ≤ pi 0 + ((far 33).toInt - pi 33) then (far 0).toInt else pi 0 + ((far 33).toInt - pi 33)) = 0
    rw [if_pos (by omega)]
    exact h0
  · intro v hv
    have hpa := hpv v hv
    have hlow := hI.2.1 v hv
    have e33 : (if (far 33).toInt ≤ pi 33 + ((far 33).toInt - pi 33) then (far 33).toInt else pi 33 + ((far 33).toInt - pi 33)) = (far 33).toInt := if_pos (by omega)
    show 0 ≤ (if (far v).toInt ≤ pi v + ((far 33).toInt - pi 33) then (far v).toInt else pi v + ((far 33).toInt - pi 33)) ∧ (if (far v).toInt ≤ pi v + ((far 33).toInt - pi 33) then (far v).toInt else pi v + ((far 33).toInt - pi 33)) ≤ (if (far 33).toInt ≤ pi 33 + ((far 33).toInt - pi 33) then (far 33).toInt else pi 33 + ((far 33).toInt - pi 33)) ∧ (if (far v).toInt ≤ pi v + ((far 33).toInt - pi 33) then (far v).toInt else pi v + ((far 33).toInt - pi 33)) ≤ 4000000000000000
    rw [e33]
    have hl2 : (far v).toInt = 4000000000000000 ∨ ((far v).toInt < 4000000000000000 ∧ pi v - pi 0 ≤ (far v).toInt) := hlow
    by_cases c : (far v).toInt ≤ pi v + ((far 33).toInt - pi 33)
    · rw [if_pos c]
      omega
    · rw [if_neg c]
      omega
