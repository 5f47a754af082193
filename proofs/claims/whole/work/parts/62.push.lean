/-! ===== push(): the same for the class's network ===== -/
theorem hc_push {R0 : Nat → Int64} {bef : Nat → Int32} {dep : Nat → Nat} {src to L : Nat} (hr : hm_road R0 bef dep src to L) (hb : hm_rb R0) {m : Int64} (h0 : 0 < m.toInt) (hall : ∀ j, j < L → m.toInt ≤ (R0 (34 * hm_p bef to (j + 1) + hm_p bef to j)).toInt) {i : Nat} (hi : i < L) {Rc : Nat → Int64} (hJ : hm_J62 R0 bef dep to i m.toInt Rc) :
    hm_J62 R0 bef dep to (i + 1) m.toInt (vp_updL (vp_updL Rc (34 * hm_p bef to (i + 1) + hm_p bef to i) (Rc (34 * hm_p bef to (i + 1) + hm_p bef to i) - m)) (34 * hm_p bef to i + hm_p bef to (i + 1)) ((vp_updL Rc (34 * hm_p bef to (i + 1) + hm_p bef to i) (Rc (34 * hm_p bef to (i + 1) + hm_p bef to i) - m)) (34 * hm_p bef to i + hm_p bef to (i + 1)) + m)) := by
  obtain ⟨j1, j2, j3, j4, j5⟩ := hJ
  have hxl := hm_road_lt hr i (by omega)
  have hul := hm_road_lt hr (i + 1) (by omega)
  obtain ⟨-, -, -, hdl, -⟩ := hr.2.2 i hi
  have hal := hall i hi
  generalize hxe : hm_p bef to i = x at *
  generalize hue : hm_p bef to (i + 1) = u at *
  have hux : u ≠ x := by
    intro e
    subst e
    omega
  have hix : 34 * x + u ≠ 34 * u + x := by omega
  have hv1 : Rc (34 * u + x) = R0 (34 * u + x) := j5 u x hul hxl (by omega) (Nat.le_refl _)
  have hb1 := hb u x hul hxl
  have hpair := j2 u x hul hxl
  have hnn := j3 x u hxl hul
  have hs1 : (Rc (34 * u + x) - m).toInt = (Rc (34 * u + x)).toInt - m.toInt := by
    rw [hv1] at *
    exact h64_sub (by omega) (by omega)
  have hs2 : (Rc (34 * x + u) + m).toInt = (Rc (34 * x + u)).toInt + m.toInt := by
    rw [hv1] at hpair
    exact h64_add (by omega) (by omega)
  rw [hp_updLn _ _ hix]
  -- what stands where
  have hA : vp_updL (vp_updL Rc (34 * u + x) (Rc (34 * u + x) - m)) (34 * x + u) (Rc (34 * x + u) + m) (34 * x + u) = Rc (34 * x + u) + m := hp_updL _ _ _
  have hB : vp_updL (vp_updL Rc (34 * u + x) (Rc (34 * u + x) - m)) (34 * x + u) (Rc (34 * x + u) + m) (34 * u + x) = Rc (34 * u + x) - m := by
    rw [hp_updLn _ _ (Ne.symm hix), hp_updL]
  have hC : ∀ a b, a < 34 → b < 34 → ¬ (a = x ∧ b = u) → ¬ (a = u ∧ b = x) → vp_updL (vp_updL Rc (34 * u + x) (Rc (34 * u + x) - m)) (34 * x + u) (Rc (34 * x + u) + m) (34 * a + b) = Rc (34 * a + b) := by
    intro a b ha hb p q
    rw [hp_updLn _ _ (by omega), hp_updLn _ _ (by omega)]
  refine ⟨?_, ?_, ?_, ?_, ?_⟩
  · intro w hw
    rw [ho_upd _ _ hul, ho_upd _ _ hxl, j1 w hw, hp_updLn _ _ hix, hs1, hs2]
    have hsim : (if w = u then (Rc (34 * u + x)).toInt - m.toInt - (Rc (34 * u + x)).toInt else 0) = - (if w = u then m.toInt else 0) := by
      by_cases e : w = u
      · rw [if_pos e, if_pos e]; omega
      · rw [if_neg e, if_neg e]; omega
    have hsim2 : (if w = x then (Rc (34 * x + u)).toInt + m.toInt - (Rc (34 * x + u)).toInt else 0) = (if w = x then m.toInt else 0) := by
      by_cases e : w = x
      · rw [if_pos e, if_pos e]; omega
      · rw [if_neg e, if_neg e]
    rw [hsim, hsim2, hue]
    omega
  · intro a b ha hb'
    by_cases c1 : a = x ∧ b = u
    · obtain ⟨rfl, rfl⟩ := c1
      rw [hA, hB, hs1, hs2]
      have := j2 a b ha hb'
      omega
    · by_cases c2 : a = u ∧ b = x
      · obtain ⟨rfl, rfl⟩ := c2
        rw [hA, hB, hs1, hs2]
        have := j2 a b ha hb'
        omega
      · rw [hC a b ha hb' c1 c2, hC b a hb' ha (by omega) (by omega)]
        exact j2 a b ha hb'
  · intro a b ha hb'
    by_cases c1 : a = x ∧ b = u
    · obtain ⟨rfl, rfl⟩ := c1
      rw [hA, hs2]
      omega
    · by_cases c2 : a = u ∧ b = x
      · obtain ⟨rfl, rfl⟩ := c2
        rw [hB, hs1, hv1]
        omega
      · rw [hC a b ha hb' c1 c2]
        exact j3 a b ha hb'
  · intro a b ha hb' hpos
    by_cases c1 : a = x ∧ b = u
    · exact Or.inr ⟨i, by omega, by rw [hxe]; exact c1.1, by rw [hue]; exact c1.2⟩
    · by_cases c2 : a = u ∧ b = x
      · obtain ⟨rfl, rfl⟩ := c2
        exact Or.inl (by omega)
      · rw [hC a b ha hb' c1 c2] at hpos
        rcases j4 a b ha hb' hpos with q | ⟨j, hj, q⟩
        · exact Or.inl q
        · exact Or.inr ⟨j, by omega, q⟩
  · intro a b ha hb' hda hdb
    rw [hue] at hda hdb
    rw [hC a b ha hb' (by intro q; rw [q.1] at hda; omega) (by intro q; rw [q.2] at hdb; omega)]
    exact j5 a b ha hb' (by omega) (by omega)
theorem hc_p_shift (bef : Nat → Int32) (v : Nat) : ∀ j, hm_p bef v (j + 1) = hm_p bef ((bef v).toNatClampNeg) j
  | 0 => rfl
  | j + 1 => by
    show (bef (hm_p bef v (j + 1))).toNatClampNeg = (bef (hm_p bef ((bef v).toNatClampNeg) j)).toNatClampNeg
    rw [hc_p_shift bef v j]
section HPUSH
variable {R : Nat → Int64} {st : Nat}
/-- the road back, hop by hop -/
theorem hc_road {q : Nat} {queue : Nat → Nat} {bef : Nat → Int32} {pos lev : Nat → Nat} (h : hc_B R st q queue bef pos lev) : ∀ (N v : Nat), pos v < N → v < 34 → ¬ bef v = -1 → ∃ L, L = lev v ∧ L ≤ pos v ∧ hm_road R bef pos st v L ∧ ∀ j, j ≤ L → ¬ bef (hm_p bef v j) = -1 ∧ lev (hm_p bef v j) + j = lev v := by
  intro N
  induction N with
  | zero => exact fun v h => absurd h (Nat.not_lt_zero _)
  | succ N ih =>
    intro v hN hv hs1
    by_cases e : v = st
    · exact ⟨0, by rw [e]; exact h.2.2.2.2.2.2.symm, Nat.zero_le _, ⟨e, hv, fun j hj => absurd hj (Nat.not_lt_zero _)⟩, fun j hj => by
        have : j = 0 := by omega
        subst this
        exact ⟨hs1, rfl⟩⟩
    · rcases h.2.2.1 v hv hs1 with k | ⟨a, k1, k2, k3, k4, k5, k6⟩
      · exact absurd k e
      · have hne : v ≠ st := e
        obtain ⟨L, i1, i2, i3, i4⟩ := ih a (by omega) k1 k2
        have ea : (bef v).toNatClampNeg = a := by rw [k3, nI_clamp (by omega)]
        have sh : ∀ j, hm_p bef v (j + 1) = hm_p bef a j := fun j => by rw [hc_p_shift, ea]
        refine ⟨L + 1, by omega, by omega, ⟨by rw [sh]; exact i3.1, hv, fun j hj => ?_⟩, fun j hj => ?_⟩
        · cases j with
          | zero =>
            rw [sh 0]
            exact ⟨hne, k1, k3, k6, k4⟩
          | succ j =>
            rw [sh j, sh (j + 1)]
            exact i3.2.2 j (by omega)
        · cases j with
          | zero => exact ⟨hs1, rfl⟩
          | succ j =>
            rw [sh j]
            have := i4 j (by omega)
            exact ⟨this.1, by omega⟩
theorem hc_road_dep {bef : Nat → Int32} {dep : Nat → Nat} {to L : Nat} (h : hm_road R bef dep st to L) : ∀ i j, j < i → i ≤ L → dep (hm_p bef to i) < dep (hm_p bef to j) := by
  intro i
  induction i with
  | zero => exact fun j h => absurd h (Nat.not_lt_zero _)
  | succ i ih =>
    intro j hj hi
    have k := (h.2.2 i (by omega)).2.2.2.1
    by_cases e : j = i
    · subst e; exact k
    · have := ih j (by omega) (by omega)
      omega
/-- after i hops: the flow, and each arc gone over has m less -/
def hc_K (R : Nat → Int64) (bef : Nat → Int32) (dep : Nat → Nat) (to i : Nat) (m : Int) (Rc : Nat → Int64) : Prop := hm_J62 R bef dep to i m Rc ∧ ∀ j, j < i → (Rc (34 * hm_p bef to (j + 1) + hm_p bef to j)).toInt = (R (34 * hm_p bef to (j + 1) + hm_p bef to j)).toInt - m
theorem hc_63 {bef : Nat → Int32} {dep : Nat → Nat} {to L : Nat} (hr : hm_road R bef dep 32 to L) (hb : hm_rb R) {m : Int64} (h0 : 0 < m.toInt) (hall : ∀ j, j < L → m.toInt ≤ (R (34 * hm_p bef to (j + 1) + hm_p bef to j)).toInt) {Post : (Nat → Int64) → Prop}
    (hk : ∀ Rc, hc_K R bef dep to L m.toInt Rc → Post Rc) :
    ∀ (n i : Nat) (Rc : Nat → Int64), L - i < n → i ≤ L → L < 34 → hc_K R bef dep to i m.toInt Rc → Post (f_Shortage_push_h63 bef m f_Shortage_push_x63 n (hm_p bef to i) i Rc) := by
  intro n
  induction n with
  | zero => exact fun i Rc h => absurd h (Nat.not_lt_zero _)
  | succ n ih =>
    intro i Rc hn hi hL hK
    rw [f_Shortage_push_h63]
    unfold f_Shortage_push_h63B
    by_cases c : hm_p bef to i = 32
    · have hiL : i = L := by
        rcases Nat.lt_or_ge i L with q | q
        · exact absurd c (hr.2.2 i q).1
        · omega
      subst hiL
      rw [if_neg (by omega), if_pos c]
      exact hk _ hK
    · have hiL : i < L := by
        rcases Nat.lt_or_ge i L with q | q
        · exact q
        · exfalso
          have : i = L := by omega
          subst this
          exact c hr.1
      rw [if_neg (by omega), if_neg c]
      have k := hr.2.2 i hiL
      have eb : (bef (hm_p bef to i)).toNatClampNeg = hm_p bef to (i + 1) := rfl
      have hxl := hm_road_lt hr i (by omega)
      have hul := k.2.1
      rw [eb, Nat.mul_comm (hm_p bef to (i + 1)) 34, Nat.mul_comm (hm_p bef to i) 34]
      have hp := hc_push hr hb h0 hall hiL hK.1
      refine ih (i + 1) _ (by omega) hiL hL ⟨hp, fun j hj => ?_⟩
      have hux : hm_p bef to (i + 1) ≠ hm_p bef to i := by
        intro e
        have := k.2.2.2.1
        rw [e] at this
        omega
      by_cases e : j = i
      · subst e
        rw [hp_updLn _ _ (by omega), hp_updL]
        have hv1 : Rc (34 * hm_p bef to (j + 1) + hm_p bef to j) = R (34 * hm_p bef to (j + 1) + hm_p bef to j) := hK.1.2.2.2.2 _ _ hul hxl (Nat.le_of_lt k.2.2.2.1) (Nat.le_refl _)
        have b1 := hb _ _ hul hxl
        have b2 := hb _ _ hxl hul
        have a1 := hall j hiL
        rw [hv1]
        exact h64_sub (by omega) (by omega)
      · have d1 := hc_road_dep hr i j (by omega) (by omega)
        have d2 := k.2.2.2.1
        have hjl := hm_road_lt hr j (by omega)
        have hjl1 := hm_road_lt hr (j + 1) (by omega)
        have n1 : hm_p bef to j ≠ hm_p bef to i := fun q => by rw [q] at d1; omega
        have n2 : hm_p bef to j ≠ hm_p bef to (i + 1) := fun q => by rw [q] at d1; omega
        rw [hp_updLn _ _ (by omega), hp_updLn _ _ (by omega)]
        exact hK.2 j (by omega)
theorem hc_10 {bef : Nat → Int32} {dep : Nat → Nat} {to L : Nat} (hr : hm_road R bef dep 32 to L) (hL : L < 34) {Post : (Nat → Int64) → Prop} {k : Int64 → Nat → Nat → (Nat → Int64)}
    (hk : ∀ (m : Int64) (x y : Nat), 0 < m.toInt → (∀ j, j < L → m.toInt ≤ (R (34 * hm_p bef to (j + 1) + hm_p bef to j)).toInt) → (m.toInt = 1099511627776 ∨ ∃ j, j < L ∧ m.toInt = (R (34 * hm_p bef to (j + 1) + hm_p bef to j)).toInt) → Post (k m x y)) :
    ∀ (n i : Nat) (m : Int64), L - i < n → i ≤ L → 0 < m.toInt → (∀ j, j < i → m.toInt ≤ (R (34 * hm_p bef to (j + 1) + hm_p bef to j)).toInt) → (m.toInt = 1099511627776 ∨ ∃ j, j < L ∧ m.toInt = (R (34 * hm_p bef to (j + 1) + hm_p bef to j)).toInt) → Post (f_Shortage_push_h10 R bef k n m (hm_p bef to i) i) := by
  intro n
  induction n with
  | zero => exact fun i m h => absurd h (Nat.not_lt_zero _)
  | succ n ih =>
    intro i m hn hi h0 hle hat
    rw [f_Shortage_push_h10]
    unfold f_Shortage_push_h10B
    by_cases c : hm_p bef to i = 32
    · have hiL : i = L := by
        rcases Nat.lt_or_ge i L with q | q
        · exact absurd c (hr.2.2 i q).1
        · omega
      subst hiL
      rw [if_neg (by omega), if_pos c]
      exact hk _ _ _ h0 hle hat
    · have hiL : i < L := by
        rcases Nat.lt_or_ge i L with q | q
        · exact q
        · exfalso
          have : i = L := by omega
          subst this
          exact c hr.1
      rw [if_neg (by omega), if_neg c]
      have kk := hr.2.2 i hiL
      have eb : (bef (hm_p bef to i)).toNatClampNeg = hm_p bef to (i + 1) := rfl
      rw [eb, Nat.mul_comm (hm_p bef to (i + 1)) 34]
      unfold hh_min
      by_cases c2 : R (34 * hm_p bef to (i + 1) + hm_p bef to i) < m
      · rw [if_pos c2]
        rw [h64_lt] at c2
        refine ih (i + 1) _ (by clear hat; omega) hiL kk.2.2.2.2 (fun j hj => ?_) (Or.inr ⟨i, hiL, rfl⟩)
        by_cases e : j = i
        · subst e; exact Int.le_refl _
        · have := hle j (by omega)
          omega
      · rw [if_neg c2]
        rw [h64_lt] at c2
        refine ih (i + 1) _ (by clear hat; omega) hiL h0 (fun j hj => ?_) hat
        by_cases e : j = i
        · subst e; omega
        · exact hle j (by omega)
/-- what push does: m more from start to end; some arc has no rest left -/
theorem hc_pushed {bef : Nat → Int32} {dep : Nat → Nat} {L : Nat} (hr : hm_road R bef dep 32 33 L) (hL : L < 34) (hL0 : 0 < L) (hb : hm_rb R) (hb40 : ∀ a b, a < 34 → b < 34 → (R (34 * a + b)).toInt ≤ 1099511627776) :
    ∃ m, 0 < m ∧ hc_K R bef dep 33 L m (f_Shortage_push R bef) ∧ ∃ j, j < L ∧ m = (R (34 * hm_p bef 33 (j + 1) + hm_p bef 33 j)).toInt := by
  unfold f_Shortage_push
  refine hc_10 (Post := fun r => ∃ m, 0 < m ∧ hc_K R bef dep 33 L m r ∧ ∃ j, j < L ∧ m = (R (34 * hm_p bef 33 (j + 1) + hm_p bef 33 j)).toInt) hr hL (fun m x y h0 hall hat => ?_) 35 0 1099511627776 (by omega) (Nat.zero_le _) (by decide) (fun j h => absurd h (Nat.not_lt_zero _)) (Or.inl (by decide))
  unfold f_Shortage_push_x10
  refine hc_63 (Post := fun r => ∃ m, 0 < m ∧ hc_K R bef dep 33 L m r ∧ ∃ j, j < L ∧ m = (R (34 * hm_p bef 33 (j + 1) + hm_p bef 33 j)).toInt) hr hb h0 hall (fun Rc hK => ⟨m.toInt, h0, hK, ?_⟩) 35 0 R (by omega) (Nat.zero_le _) hL ⟨⟨fun w hw => ?_, fun a b _ _ => rfl, fun a b ha hb' => (hb a b ha hb').1, fun a b _ _ h => Or.inl h, fun a b _ _ _ _ => rfl⟩, fun j h => absurd h (Nat.not_lt_zero _)⟩
  · rcases hat with q | q
    · refine ⟨0, hL0, ?_⟩
      have a := hall 0 hL0
      have b := hb40 _ _ (hr.2.2 0 hL0).2.1 (hm_road_lt hr 0 (by omega))
      omega
    · exact q
  · show ho R w = ho R w + (if w = 33 then m.toInt else 0) - (if w = 33 then m.toInt else 0)
    omega
end HPUSH
