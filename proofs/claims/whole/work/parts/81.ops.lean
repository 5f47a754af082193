/-! ===== what the plan says ===== -/
theorem hO_72 {F : Nat} {LP1 LM12 : Nat → Int64} {s : Nat} (he : ∀ f, f < F → LP1 (s * 9 + f) = LM12 (8 * s + f)) {k : Int64 → Nat → Int64} {k' : Int64 → Nat → Int64 × Nat} (hk : ∀ a f f', k' a f = (k a f', 0)) : ∀ (m : Nat) (acc : Int64) (f : Nat), f_Model_cost_h72 F LM12 s k' m acc f = (f_Plan_amountFrom_h14 F LP1 s k m acc f, 0) := by
  intro m
  induction m with
  | zero => exact fun acc f => hk _ _ _
  | succ m ih =>
    intro acc f
    rw [f_Model_cost_h72, f_Plan_amountFrom_h14]
    unfold f_Model_cost_h72B f_Plan_amountFrom_h14B
    by_cases c : F ≤ f
    · rw [if_pos c, if_pos c]
      exact hk _ _ _
    · rw [if_neg c, if_neg c, hh_bind]
      unfold f_Plan_amount
      rw [he f (by omega)]
      exact ih _ _
theorem hO_55 {VM1 VM4 F : Nat} {LP1 LM12 : Nat → Int64} (he : ∀ s f, s < VM1 + VM4 → f < F → LP1 (s * 9 + f) = LM12 (8 * s + f)) : ∀ (m : Nat) (acc : Int64) (s : Nat), f_Model_cost_h55 VM1 VM4 F LM12 f_Model_cost_x55 m acc s = (f_Plan_amountFrom_h5 (VM1 + VM4) F LP1 f_Plan_amountFrom_x5 m acc s, 0) := by
  intro m
  induction m with
  | zero => exact fun acc s => rfl
  | succ m ih =>
    intro acc s
    rw [f_Model_cost_h55, f_Plan_amountFrom_h5]
    unfold f_Model_cost_h55B f_Plan_amountFrom_h5B
    by_cases c : VM1 + VM4 ≤ s
    · rw [if_pos c, if_pos c]
      rfl
    · rw [if_neg c, if_neg c]
      exact hO_72 (fun f hf => he s f (by omega) hf) (fun a f f' => ih a (s + 1)) 9 acc 0
/-- the sum of a row -/
theorem hO_14 {F : Nat} {LP1 : Nat → Int64} {x : Nat → Nat → Int} {s : Nat} (hF : F ≤ 8) (hx : ∀ f, f < F → (LP1 (s * 9 + f)).toInt = x s f ∧ 0 ≤ x s f ∧ x s f ≤ 100000000) {Post : Int64 → Prop} {k : Int64 → Nat → Int64} (hk : ∀ acc f, acc.toInt = hrow x F s → Post (k acc f)) : ∀ (m f : Nat) (acc : Int64), F - f < m → f ≤ F → acc.toInt = hs (fun f => x s f) f → Post (f_Plan_amountFrom_h14 F LP1 s k m acc f) := by
  intro m
  induction m with
  | zero => exact fun f acc h => absurd h (Nat.not_lt_zero _)
  | succ m ih =>
    intro f acc hm hf h
    rw [f_Plan_amountFrom_h14]
    unfold f_Plan_amountFrom_h14B
    by_cases c : F ≤ f
    · rw [if_pos c]
      have e : f = F := by omega
      subst e
      exact hk _ _ h
    · rw [if_neg c, hh_bind]
      have b := hw_step (f := fun f => x s f) (n := F) (k := f) (fun i hi => ⟨(hx i hi).2.1, by have := (hx i hi).2.2; show x s i ≤ _; omega⟩) hf (by omega)
      have q := hx f (by omega)
      refine ih (f + 1) _ (by omega) (by omega) ?_
      unfold f_Plan_amount
      rw [h64_add (by omega) (by omega), h, q.1]
      rfl
theorem hO_row {F : Nat} {LP1 : Nat → Int64} {x : Nat → Nat → Int} {s : Nat} (hF : F ≤ 8) (hx : ∀ f, f < F → (LP1 (s * 9 + f)).toInt = x s f ∧ 0 ≤ x s f ∧ x s f ≤ 100000000) : (f_Plan_amountFrom F LP1 s (s + 1)).toInt = hrow x F s := by
  unfold f_Plan_amountFrom
  rw [f_Plan_amountFrom_h5]
  unfold f_Plan_amountFrom_h5B
  rw [if_neg (by omega)]
  refine hO_14 (Post := fun r => r.toInt = hrow x F s) hF hx (fun acc f h => ?_) 9 0 0 (by omega) (Nat.zero_le _) h64_0
  show (f_Plan_amountFrom_h5 (s + 1) F LP1 f_Plan_amountFrom_x5 12 acc (s + 1)).toInt = hrow x F s
  rw [f_Plan_amountFrom_h5]
  unfold f_Plan_amountFrom_h5B
  rw [if_pos (by omega)]
  exact h
theorem hO_to {n : Nat} {LP1 : Nat → Int64} {x : Nat → Nat → Int} {f : Nat} (hn : n ≤ 12) (hx : ∀ s, s < n → (LP1 (s * 9 + f)).toInt = x s f ∧ 0 ≤ x s f ∧ x s f ≤ 100000000) : (f_Plan_amountTo n LP1 f).toInt = hcol x n f := by
  have gen : ∀ (m s : Nat) (acc : Int64), n - s < m → s ≤ n → acc.toInt = hs (fun s => x s f) s → (f_Plan_amountTo_h5 n LP1 f f_Plan_amountTo_x5 m acc s).toInt = hcol x n f := by
    intro m
    induction m with
    | zero => exact fun s acc h => absurd h (Nat.not_lt_zero _)
    | succ m ih =>
      intro s acc hm hs1 h
      rw [f_Plan_amountTo_h5]
      unfold f_Plan_amountTo_h5B
      by_cases c : n ≤ s
      · rw [if_pos c]
        have e : s = n := by omega
        subst e
        exact h
      · rw [if_neg c, hh_bind]
        have b := hw_step (f := fun s => x s f) (n := n) (k := s) (fun i hi => ⟨(hx i hi).2.1, by have := (hx i hi).2.2; show x i f ≤ _; omega⟩) hs1 (by omega)
        have q := hx s (by omega)
        refine ih (s + 1) _ (by omega) (by omega) ?_
        unfold f_Plan_amount
        rw [h64_add (by omega) (by omega), h, q.1]
        rfl
  exact gen 13 0 0 (by omega) (Nat.zero_le _) h64_0
theorem hO_in {n F : Nat} {LP1 : Nat → Int64} {x : Nat → Nat → Int} {wk : Nat → Nat} {w : Nat} (hn : n ≤ 12) (hF : F ≤ 8) (hx : ∀ s f, s < n → f < F → (LP1 (s * 9 + f)).toInt = x s f ∧ 0 ≤ x s f ∧ x s f ≤ 100000000) : (f_Plan_amountIn n F LP1 wk w).toInt = hwk wk x n F w := by
  have cb : ∀ f, f < F → 0 ≤ (if wk f = w then hcol x n f else 0) ∧ (if wk f = w then hcol x n f else 0) ≤ 100000000000000 := by
    intro f hf
    have b := hw_step (f := fun s => x s f) (n := n) (k := n) (fun i hi => ⟨(hx i f hi hf).2.1, by have := (hx i f hi hf).2.2; show x i f ≤ _; omega⟩) (Nat.le_refl _) (by omega)
    have b2 : hcol x n f ≤ hs (fun _ => (100000000 : Int)) n := hs_le (fun i hi => (hx i f hi hf).2.2)
    rw [hs_const] at b2
    have b1 : 0 ≤ hcol x n f := b.1
    by_cases c : wk f = w
    · rw [if_pos c]; omega
    · rw [if_neg c]; omega
  have gen : ∀ (m f : Nat) (acc : Int64), F - f < m → f ≤ F → acc.toInt = hs (fun f => if wk f = w then hcol x n f else 0) f → (f_Plan_amountIn_h5 F wk w n LP1 f_Plan_amountIn_x5 m acc f).toInt = hwk wk x n F w := by
    intro m
    induction m with
    | zero => exact fun s acc h => absurd h (Nat.not_lt_zero _)
    | succ m ih =>
      intro f acc hm hf h
      rw [f_Plan_amountIn_h5]
      unfold f_Plan_amountIn_h5B
      by_cases c : F ≤ f
      · rw [if_pos c]
        have e : f = F := by omega
        subst e
        exact h
      · rw [if_neg c]
        have b := hw_step (f := fun f => if wk f = w then hcol x n f else 0) (n := F) (k := f) cb hf (by omega)
        have st : hs (fun f => if wk f = w then hcol x n f else 0) (f + 1) = hs (fun f => if wk f = w then hcol x n f else 0) f + (if wk f = w then hcol x n f else 0) := rfl
        have cf := cb f (by omega)
        by_cases e : wk f = w
        · rw [if_pos e] at st cf ⊢
          rw [hh_bind]
          have q := hO_to (x := x) hn (fun s hs1 => hx s f hs1 (by omega))
          refine ih (f + 1) _ (by omega) (by omega) ?_
          rw [h64_add (by omega) (by omega), h, q, st]
        · rw [if_neg e] at st ⊢
          exact ih (f + 1) _ (by omega) (by omega) (by omega)
  exact gen 9 0 0 (by omega) (Nat.zero_le _) h64_0
theorem hi_moved_is : hi_moved hi_Inv := by
  intro VH0 VS0 VS1 VS2 NS0 NS1 NS2 LS0 LS1 LS2 LS3 LS4 LS5 LS6 LS7 LS8 IS0 VY0 LY0 LY1 LY2 IY0 VP0 VP1 VP2 NP0 LP0 LP1 LP2 LP3 LP4 IP0 IP1 VQ0 VQ1 VQ2 NQ0 LQ0 LQ1 LQ2 LQ3 LQ4 IQ0 IQ1 VT0 NT0 NT1 LT0 IT0 VM0 VM1 VM2 VM3 VM4 VM5 WM0 NM0 NM1 NM2 LM0 LM1 LM2 LM3 LM4 LM5 LM6 LM7 LM8 LM9 LM10 LM11 LM12 LM13 LM14 LM15 IM0 IM1 IM2 IM3 x1 x2 x3 h
  obtain ⟨hs0, ⟨q1, q2, q3⟩, hst, hH2, hpl, hcl⟩ := id h
  obtain ⟨e1, e2, e3, e4, e5, e6, e7, e8, e9, e10, e11, e12, e13, e14, e15, e16⟩ := hs0.1
  subst e1 e2 e3 e4 e5 e6 e7 e8 e9 e10 e11 e12 e13 e14 e15 e16
  obtain ⟨-, ⟨b1, b2, b3, b4, b5, b6, b7⟩, h6, h8, hbits, hbars, hv⟩ := id hs0
  subst hst
  have one : (1 : Int64).toInt = 1 := by decide
  have z64 : (0 : Int64).toInt = 0 := by decide
  have m5 : (100000 : Int64).toInt = 100000 := by decide
  have n2 : (2 : Int64).toInt = 2 := by decide
  have n3 : (3 : Int64).toInt = 3 := by decide
  unfold f_HaulFlows_moved f_Model_moved
  simp only [hh_bind]
  by_cases cs : VH0 = 1
  case neg =>
    rw [if_neg cs, if_neg cs]
    exact ⟨by first | trivial | rfl, h⟩
  rw [if_pos cs, if_pos cs]
  obtain ⟨g1, g2, g3, g4, g5, g6, g7, g8, g9⟩ := hpl cs
  have es : f_Site_sources VS0 VS1 = VS0 + VS1 := rfl
  rw [es]
  have c0 : (f_HaulFlows_isBelow x1 (nI (VS0 + VS1)) = nI 1 ∧ (0 ≤ x1.toInt ∧ x1.toInt < (VS0 + VS1))) ∨ (f_HaulFlows_isBelow x1 (nI (VS0 + VS1)) = nI 0 ∧ ¬ (0 ≤ x1.toInt ∧ x1.toInt < (VS0 + VS1))) := hy_below x1 (show (VS0 + VS1) < 2 ^ 31 by omega)
  have m0 : (f_Model_isIn x1.toInt64 0 ((nI (VS0 + VS1)).toInt64 - 1) = nI 1 ∧ (0 ≤ x1.toInt ∧ x1.toInt < (VS0 + VS1))) ∨ (f_Model_isIn x1.toInt64 0 ((nI (VS0 + VS1)).toInt64 - 1) = nI 0 ∧ ¬ (0 ≤ x1.toInt ∧ x1.toInt < (VS0 + VS1))) := by have k := hy_in x1.toInt64 0 ((nI (VS0 + VS1)).toInt64 - 1); rw [z64, hy_n64 (by omega), hy_64] at k; rcases k with ⟨k1, k2⟩ | ⟨k1, k2⟩; exact Or.inl ⟨k1, by omega⟩; exact Or.inr ⟨k1, by omega⟩
  rcases c0 with ⟨cy0, p0⟩ | ⟨cy0, p0⟩
  case inr =>
    have my : f_Model_isIn x1.toInt64 0 ((nI (VS0 + VS1)).toInt64 - 1) = nI 0 := by rcases m0 with ⟨a, b⟩ | ⟨a, b⟩; exact absurd b p0; exact a
    simp only [cy0, my, show (nI 0 = 0) = True from eq_true (by decide), if_true]
    exact ⟨by first | trivial | rfl, h⟩
  have my0 : f_Model_isIn x1.toInt64 0 ((nI (VS0 + VS1)).toInt64 - 1) = nI 1 := by rcases m0 with ⟨a, b⟩ | ⟨a, b⟩; exact a; exact absurd p0 b
  simp only [cy0, my0, show (nI 1 = 0) = False from eq_false (by decide), if_false]
  have c1 : (f_HaulFlows_isBelow x2 (nI VS2) = nI 1 ∧ (0 ≤ x2.toInt ∧ x2.toInt < VS2)) ∨ (f_HaulFlows_isBelow x2 (nI VS2) = nI 0 ∧ ¬ (0 ≤ x2.toInt ∧ x2.toInt < VS2)) := hy_below x2 (show VS2 < 2 ^ 31 by omega)
  have m1 : (f_Model_isIn x2.toInt64 0 ((nI VS2).toInt64 - 1) = nI 1 ∧ (0 ≤ x2.toInt ∧ x2.toInt < VS2)) ∨ (f_Model_isIn x2.toInt64 0 ((nI VS2).toInt64 - 1) = nI 0 ∧ ¬ (0 ≤ x2.toInt ∧ x2.toInt < VS2)) := by have k := hy_in x2.toInt64 0 ((nI VS2).toInt64 - 1); rw [z64, hy_n64 (by omega), hy_64] at k; rcases k with ⟨k1, k2⟩ | ⟨k1, k2⟩; exact Or.inl ⟨k1, by omega⟩; exact Or.inr ⟨k1, by omega⟩
  rcases c1 with ⟨cy1, p1⟩ | ⟨cy1, p1⟩
  case inr =>
    have my : f_Model_isIn x2.toInt64 0 ((nI VS2).toInt64 - 1) = nI 0 := by rcases m1 with ⟨a, b⟩ | ⟨a, b⟩; exact absurd b p1; exact a
    simp only [cy1, my, show (nI 0 = 0) = True from eq_true (by decide), if_true]
    exact ⟨by first | trivial | rfl, h⟩
  have my1 : f_Model_isIn x2.toInt64 0 ((nI VS2).toInt64 - 1) = nI 1 := by rcases m1 with ⟨a, b⟩ | ⟨a, b⟩; exact a; exact absurd p1 b
  simp only [cy1, my1, show (nI 1 = 0) = False from eq_false (by decide), if_false]
  have c2 : (f_HaulFlows_isBelow x3 (nI 2) = nI 1 ∧ (0 ≤ x3.toInt ∧ x3.toInt < 2)) ∨ (f_HaulFlows_isBelow x3 (nI 2) = nI 0 ∧ ¬ (0 ≤ x3.toInt ∧ x3.toInt < 2)) := hy_below x3 (show 2 < 2 ^ 31 by omega)
  have m2 : (f_Model_isIn x3.toInt64 0 1 = nI 1 ∧ (0 ≤ x3.toInt ∧ x3.toInt < 2)) ∨ (f_Model_isIn x3.toInt64 0 1 = nI 0 ∧ ¬ (0 ≤ x3.toInt ∧ x3.toInt < 2)) := by have k := hy_in x3.toInt64 0 1; rw [z64, one, hy_64] at k; rcases k with ⟨k1, k2⟩ | ⟨k1, k2⟩; exact Or.inl ⟨k1, by omega⟩; exact Or.inr ⟨k1, by omega⟩
  rcases c2 with ⟨cy2, p2⟩ | ⟨cy2, p2⟩
  case inr =>
    have my : f_Model_isIn x3.toInt64 0 1 = nI 0 := by rcases m2 with ⟨a, b⟩ | ⟨a, b⟩; exact absurd b p2; exact a
    simp only [cy2, my, show (nI 0 = 0) = True from eq_true (by decide), if_true]
    exact ⟨by first | trivial | rfl, h⟩
  have my2 : f_Model_isIn x3.toInt64 0 1 = nI 1 := by rcases m2 with ⟨a, b⟩ | ⟨a, b⟩; exact a; exact absurd p2 b
  simp only [cy2, my2, show (nI 1 = 0) = False from eq_false (by decide), if_false]
  have k1 := hy_clamp p0.1
  have k2 := hy_clamp p1.1
  have e := g8 x1.toNatClampNeg x2.toNatClampNeg (by omega) (by omega)
  by_cases c : x3 = 0
  · rw [if_pos c, if_pos c]
    exact ⟨e, h⟩
  · rw [if_neg c, if_neg c]
    refine ⟨?_, h⟩
    unfold f_Plan_price
    show LP1 (x1.toNatClampNeg * 9 + x2.toNatClampNeg) * LP0 (x1.toNatClampNeg * 9 + x2.toNatClampNeg) = LM12 (8 * x1.toNatClampNeg + x2.toNatClampNeg) * _
    rw [← e, g3.1 _ _ (by omega) (by omega)]
    by_cases d : f_Model_serves VS0 NS0 NS1 NS2 IM0 x1.toNatClampNeg x2.toNatClampNeg = 0
    · have z := (hR_sv (hI_U.R hs0 g3) g4 (show x1.toNatClampNeg < VS0 + VS1 by omega) (show x2.toNatClampNeg < VS2 by omega)).2 (fun q => q d)
      have z' : LP1 (x1.toNatClampNeg * 9 + x2.toNatClampNeg) = 0 := Int64.toInt_inj.mp (by rw [h64_0]; exact z)
      rw [z', Int64.zero_mul, Int64.zero_mul]
    · rw [if_neg d]
theorem hO_num {n F : Nat} {LP0 LP1 LP2 LP3 : Nat → Int64} {C want : Nat → Int} (hS : hk_S n F LP0 C want LP1 LP2 LP3) (hw : hs want F ≤ 100000000) : ∀ s f, s < n → f < F → (LP1 (s * 9 + f)).toInt = hk_X LP1 s f ∧ 0 ≤ hk_X LP1 s f ∧ hk_X LP1 s f ≤ 100000000 := by
  intro s f h1 h2
  have a := (hR_small (f := f) hS h1).2 h2
  exact ⟨rfl, hS.1.nn h1 h2, by omega⟩
theorem hO_price {n F : Nat} {sv : Nat → Nat → Prop} {u : Nat → Nat → Int} {LP0 LP1 LP2 LP3 : Nat → Int64} {C want : Nat → Int} (hn : n ≤ 12) (hF : F ≤ 8) (hU : hR_U n F sv u LP0) (hS : hk_S n F LP0 C want LP1 LP2 LP3) (hw : hs want F ≤ 100000000) : (f_Plan_totalPrice n F LP0 LP1).toInt = hcost u (hk_X LP1) n F := by
  have nm := hO_num hS hw
  have lu : ∀ s f, s < n → f < F → (sv s f ∧ (LP0 (s * 9 + f)).toInt = u s f ∧ 0 ≤ u s f ∧ u s f ≤ 1000000) ∨ hk_X LP1 s f = 0 := by
    intro s f h1 h2
    by_cases c : sv s f
    · have q := (hU.1 s f h1 h2).1 c
      rcases hS.1.1 s f h1 h2 with k | k
      · exact absurd k.1 q.1
      · have := q.2
        exact Or.inl ⟨c, q.2, by omega, by omega⟩
    · exact Or.inr ((hR_sv hU hS h1 h2).2 c)
  refine hw_price hn hF (fun s f h1 h2 => (nm s f h1 h2).2) (fun s f h1 h2 => ?_) (fun s f h1 h2 => ⟨rfl, ?_⟩)
  · rcases lu s f h1 h2 with k | k
    · exact Or.inl k.2.2
    · exact Or.inr k
  · rcases lu s f h1 h2 with k | k
    · exact Or.inl k.2.1
    · exact Or.inr k
theorem hi_cost_is : hi_cost hi_Inv := by
  intro VH0 VS0 VS1 VS2 NS0 NS1 NS2 LS0 LS1 LS2 LS3 LS4 LS5 LS6 LS7 LS8 IS0 VY0 LY0 LY1 LY2 IY0 VP0 VP1 VP2 NP0 LP0 LP1 LP2 LP3 LP4 IP0 IP1 VQ0 VQ1 VQ2 NQ0 LQ0 LQ1 LQ2 LQ3 LQ4 IQ0 IQ1 VT0 NT0 NT1 LT0 IT0 VM0 VM1 VM2 VM3 VM4 VM5 WM0 NM0 NM1 NM2 LM0 LM1 LM2 LM3 LM4 LM5 LM6 LM7 LM8 LM9 LM10 LM11 LM12 LM13 LM14 LM15 IM0 IM1 IM2 IM3 x1 h
  obtain ⟨hs0, ⟨q1, q2, q3⟩, hst, hH2, hpl, hcl⟩ := id h
  obtain ⟨e1, e2, e3, e4, e5, e6, e7, e8, e9, e10, e11, e12, e13, e14, e15, e16⟩ := hs0.1
  subst e1 e2 e3 e4 e5 e6 e7 e8 e9 e10 e11 e12 e13 e14 e15 e16
  obtain ⟨-, ⟨b1, b2, b3, b4, b5, b6, b7⟩, h6, h8, hbits, hbars, hv⟩ := id hs0
  subst hst
  have one : (1 : Int64).toInt = 1 := by decide
  have z64 : (0 : Int64).toInt = 0 := by decide
  have m5 : (100000 : Int64).toInt = 100000 := by decide
  have n2 : (2 : Int64).toInt = 2 := by decide
  have n3 : (3 : Int64).toInt = 3 := by decide
  unfold f_HaulFlows_cost f_Model_cost
  simp only [hh_bind]
  by_cases cs : VH0 = 1
  case neg =>
    rw [if_neg cs, if_neg cs]
    exact ⟨by first | trivial | rfl, h⟩
  rw [if_pos cs, if_pos cs]
  obtain ⟨g1, g2, g3, g4, g5, g6, g7, g8, g9⟩ := hpl cs
  have c0 : (f_HaulFlows_isBelow x1 (nI 3) = nI 1 ∧ (0 ≤ x1.toInt ∧ x1.toInt < 3)) ∨ (f_HaulFlows_isBelow x1 (nI 3) = nI 0 ∧ ¬ (0 ≤ x1.toInt ∧ x1.toInt < 3)) := hy_below x1 (show 3 < 2 ^ 31 by omega)
  have m0 : (f_Model_isIn x1.toInt64 0 2 = nI 1 ∧ (0 ≤ x1.toInt ∧ x1.toInt < 3)) ∨ (f_Model_isIn x1.toInt64 0 2 = nI 0 ∧ ¬ (0 ≤ x1.toInt ∧ x1.toInt < 3)) := by have k := hy_in x1.toInt64 0 2; rw [z64, n2, hy_64] at k; rcases k with ⟨k1, k2⟩ | ⟨k1, k2⟩; exact Or.inl ⟨k1, by omega⟩; exact Or.inr ⟨k1, by omega⟩
  rcases c0 with ⟨cy0, p0⟩ | ⟨cy0, p0⟩
  case inr =>
    have my : f_Model_isIn x1.toInt64 0 2 = nI 0 := by rcases m0 with ⟨a, b⟩ | ⟨a, b⟩; exact absurd b p0; exact a
    simp only [cy0, my, show (nI 0 = 0) = True from eq_true (by decide), if_true]
    exact ⟨by first | trivial | rfl, h⟩
  have my0 : f_Model_isIn x1.toInt64 0 2 = nI 1 := by rcases m0 with ⟨a, b⟩ | ⟨a, b⟩; exact a; exact absurd p0 b
  simp only [cy0, my0, show (nI 1 = 0) = False from eq_false (by decide), if_false]
  have ws := hR_wsum hs0
  have es : f_Site_sources VS0 VS1 = VS0 + VS1 := rfl
  by_cases c : x1 = 0
  · rw [if_pos c, if_pos c]
    refine ⟨Int64.toInt_inj.mp ?_, h⟩
    rw [g1, g2]
    exact (hO_price (by omega) b2 (hI_U.R hs0 g3) g4 (by omega)).trans g9.symm
  · rw [if_neg c, if_neg c]
    by_cases d : x1 = nI 1
    · rw [if_pos d, if_pos d, hO_55 g8, es]
      refine ⟨?_, h⟩
      rw [g2]
      rfl
    · rw [if_neg d, if_neg d, hO_55 g8, es]
      refine ⟨?_, h⟩
      rw [g2]
      rfl
theorem hO_52 {F : Nat} {x2 : Int32} {LM12 : Nat → Int64} {x1 : Int32} {x : Nat → Int} (hF : F ≤ 8) (h0 : x2 = 0) (hx : ∀ f, f < F → (LM12 (8 * x1.toNatClampNeg + f)).toInt = x f ∧ 0 ≤ x f ∧ x f ≤ 100000000) {g : Int} (hg : 0 ≤ g ∧ g ≤ 1000000000) : ∀ (m f : Nat) (acc : Int64), F - f < m → f ≤ F → acc.toInt = g - hs x f → (f_Model_level_h52 F x2 LM12 x1 f_Model_level_x52 m acc f).1.toInt = g - hs x F ∧ (f_Model_level_h52 F x2 LM12 x1 f_Model_level_x52 m acc f).2 = 0 := by
  intro m
  induction m with
  | zero => exact fun f acc h => absurd h (Nat.not_lt_zero _)
  | succ m ih =>
    intro f acc hm hf h
    rw [f_Model_level_h52]
    unfold f_Model_level_h52B
    by_cases c : F ≤ f
    · rw [if_pos c]
      have e : f = F := by omega
      subst e
      exact ⟨h, rfl⟩
    · rw [if_neg c, if_pos h0]
      have b := hw_step (f := x) (n := F) (k := f) (fun i hi => ⟨(hx i hi).2.1, by have := (hx i hi).2.2; omega⟩) hf (by omega)
      have q := hx f (by omega)
      refine ih (f + 1) _ (by omega) (by omega) ?_
      rw [h64_sub (by omega) (by omega), h, q.1]
      show g - hs x f - x f = g - (hs x f + x f)
      omega
theorem hi_level_is : hi_level hi_Inv := by
  intro VH0 VS0 VS1 VS2 NS0 NS1 NS2 LS0 LS1 LS2 LS3 LS4 LS5 LS6 LS7 LS8 IS0 VY0 LY0 LY1 LY2 IY0 VP0 VP1 VP2 NP0 LP0 LP1 LP2 LP3 LP4 IP0 IP1 VQ0 VQ1 VQ2 NQ0 LQ0 LQ1 LQ2 LQ3 LQ4 IQ0 IQ1 VT0 NT0 NT1 LT0 IT0 VM0 VM1 VM2 VM3 VM4 VM5 WM0 NM0 NM1 NM2 LM0 LM1 LM2 LM3 LM4 LM5 LM6 LM7 LM8 LM9 LM10 LM11 LM12 LM13 LM14 LM15 IM0 IM1 IM2 IM3 x1 x2 h
  obtain ⟨hs0, ⟨q1, q2, q3⟩, hst, hH2, hpl, hcl⟩ := id h
  obtain ⟨e1, e2, e3, e4, e5, e6, e7, e8, e9, e10, e11, e12, e13, e14, e15, e16⟩ := hs0.1
  subst e1 e2 e3 e4 e5 e6 e7 e8 e9 e10 e11 e12 e13 e14 e15 e16
  obtain ⟨-, ⟨b1, b2, b3, b4, b5, b6, b7⟩, h6, h8, hbits, hbars, hv⟩ := id hs0
  subst hst
  have one : (1 : Int64).toInt = 1 := by decide
  have z64 : (0 : Int64).toInt = 0 := by decide
  have m5 : (100000 : Int64).toInt = 100000 := by decide
  have n2 : (2 : Int64).toInt = 2 := by decide
  have n3 : (3 : Int64).toInt = 3 := by decide
  unfold f_HaulFlows_level f_Model_level
  simp only [hh_bind]
  by_cases cs : VH0 = 1
  case neg =>
    rw [if_neg cs, if_neg cs]
    exact ⟨by first | trivial | rfl, h⟩
  rw [if_pos cs, if_pos cs]
  obtain ⟨g1, g2, g3, g4, g5, g6, g7, g8, g9⟩ := hpl cs
  have c0 : (f_HaulFlows_isBelow x1 (nI VS0) = nI 1 ∧ (0 ≤ x1.toInt ∧ x1.toInt < VS0)) ∨ (f_HaulFlows_isBelow x1 (nI VS0) = nI 0 ∧ ¬ (0 ≤ x1.toInt ∧ x1.toInt < VS0)) := hy_below x1 (show VS0 < 2 ^ 31 by omega)
  have m0 : (f_Model_isIn x1.toInt64 0 ((nI VS0).toInt64 - 1) = nI 1 ∧ (0 ≤ x1.toInt ∧ x1.toInt < VS0)) ∨ (f_Model_isIn x1.toInt64 0 ((nI VS0).toInt64 - 1) = nI 0 ∧ ¬ (0 ≤ x1.toInt ∧ x1.toInt < VS0)) := by have k := hy_in x1.toInt64 0 ((nI VS0).toInt64 - 1); rw [z64, hy_n64 (by omega), hy_64] at k; rcases k with ⟨k1, k2⟩ | ⟨k1, k2⟩; exact Or.inl ⟨k1, by omega⟩; exact Or.inr ⟨k1, by omega⟩
  rcases c0 with ⟨cy0, p0⟩ | ⟨cy0, p0⟩
  case inr =>
    have my : f_Model_isIn x1.toInt64 0 ((nI VS0).toInt64 - 1) = nI 0 := by rcases m0 with ⟨a, b⟩ | ⟨a, b⟩; exact absurd b p0; exact a
    simp only [cy0, my, show (nI 0 = 0) = True from eq_true (by decide), if_true]
    exact ⟨by first | trivial | rfl, h⟩
  have my0 : f_Model_isIn x1.toInt64 0 ((nI VS0).toInt64 - 1) = nI 1 := by rcases m0 with ⟨a, b⟩ | ⟨a, b⟩; exact a; exact absurd p0 b
  simp only [cy0, my0, show (nI 1 = 0) = False from eq_false (by decide), if_false]
  have c1 : (f_HaulFlows_isBelow x2 (nI 2) = nI 1 ∧ (0 ≤ x2.toInt ∧ x2.toInt < 2)) ∨ (f_HaulFlows_isBelow x2 (nI 2) = nI 0 ∧ ¬ (0 ≤ x2.toInt ∧ x2.toInt < 2)) := hy_below x2 (show 2 < 2 ^ 31 by omega)
  have m1 : (f_Model_isIn x2.toInt64 0 1 = nI 1 ∧ (0 ≤ x2.toInt ∧ x2.toInt < 2)) ∨ (f_Model_isIn x2.toInt64 0 1 = nI 0 ∧ ¬ (0 ≤ x2.toInt ∧ x2.toInt < 2)) := by have k := hy_in x2.toInt64 0 1; rw [z64, one, hy_64] at k; rcases k with ⟨k1, k2⟩ | ⟨k1, k2⟩; exact Or.inl ⟨k1, by omega⟩; exact Or.inr ⟨k1, by omega⟩
  rcases c1 with ⟨cy1, p1⟩ | ⟨cy1, p1⟩
  case inr =>
    have my : f_Model_isIn x2.toInt64 0 1 = nI 0 := by rcases m1 with ⟨a, b⟩ | ⟨a, b⟩; exact absurd b p1; exact a
    simp only [cy1, my, show (nI 0 = 0) = True from eq_true (by decide), if_true]
    exact ⟨by first | trivial | rfl, h⟩
  have my1 : f_Model_isIn x2.toInt64 0 1 = nI 1 := by rcases m1 with ⟨a, b⟩ | ⟨a, b⟩; exact a; exact absurd p1 b
  simp only [cy1, my1, show (nI 1 = 0) = False from eq_false (by decide), if_false]
  have k1 := hy_clamp p0.1
  have ws := hR_wsum hs0
  have nm := hO_num g4 (by omega)
  have gg := hv_gives (NM0 := NS0) hv b5 x1.toNatClampNeg
  rw [hy_gives hv h6 b5]
  by_cases c : x2 = 0
  · rw [if_pos c]
    have l := hO_52 (x1 := x1) (LM12 := LM12) (x := fun f => hk_X LP1 x1.toNatClampNeg f) b2 c (fun f hf => by rw [← g8 _ f (by omega) hf]; exact nm _ f (by omega) hf) gg 9 0 (f_Model_gives NS0 LS0 LM4 LM5 x1.toNatClampNeg) (by omega) (Nat.zero_le _) (by show _ = (f_Model_gives NS0 LS0 LM4 LM5 x1.toNatClampNeg).toInt - 0; omega)
    refine ⟨Int64.toInt_inj.mp ?_, h⟩
    rw [l.1, g2]
    have r := hO_row (x := hk_X LP1) (s := x1.toNatClampNeg) b2 (fun f hf => nm _ f (by omega) hf)
    have rb := (hR_small (f := 0) g4 (show x1.toNatClampNeg < VS0 + VS1 by omega)).1
    have rn := hrow_nn (x := hk_X LP1) (n := VS0 + VS1) (F := VS2) (fun s f a b => g4.1.nn a b) (show x1.toNatClampNeg < VS0 + VS1 by omega)
    rw [h64_sub (by omega) (by omega), r]
    rfl
  · rw [if_neg c]
    refine ⟨?_, h⟩
    rw [f_Model_level_h52]
    unfold f_Model_level_h52B
    by_cases d : VS2 ≤ 0
    · rw [if_pos d]; rfl
    · rw [if_neg d, if_neg c]; rfl
theorem hi_check_is : hi_check hi_Inv := by
  intro VH0 VS0 VS1 VS2 NS0 NS1 NS2 LS0 LS1 LS2 LS3 LS4 LS5 LS6 LS7 LS8 IS0 VY0 LY0 LY1 LY2 IY0 VP0 VP1 VP2 NP0 LP0 LP1 LP2 LP3 LP4 IP0 IP1 VQ0 VQ1 VQ2 NQ0 LQ0 LQ1 LQ2 LQ3 LQ4 IQ0 IQ1 VT0 NT0 NT1 LT0 IT0 VM0 VM1 VM2 VM3 VM4 VM5 WM0 NM0 NM1 NM2 LM0 LM1 LM2 LM3 LM4 LM5 LM6 LM7 LM8 LM9 LM10 LM11 LM12 LM13 LM14 LM15 IM0 IM1 IM2 IM3  h
  obtain ⟨hs0, ⟨q1, q2, q3⟩, hst, hH2, hpl, hcl⟩ := id h
  obtain ⟨e1, e2, e3, e4, e5, e6, e7, e8, e9, e10, e11, e12, e13, e14, e15, e16⟩ := hs0.1
  subst e1 e2 e3 e4 e5 e6 e7 e8 e9 e10 e11 e12 e13 e14 e15 e16
  obtain ⟨-, ⟨b1, b2, b3, b4, b5, b6, b7⟩, h6, h8, hbits, hbars, hv⟩ := id hs0
  subst hst
  have one : (1 : Int64).toInt = 1 := by decide
  have z64 : (0 : Int64).toInt = 0 := by decide
  have m5 : (100000 : Int64).toInt = 100000 := by decide
  have n2 : (2 : Int64).toInt = 2 := by decide
  have n3 : (3 : Int64).toInt = 3 := by decide
  unfold f_HaulFlows_check f_Model_check
  by_cases cs : VH0 = 1
  case neg =>
    rw [if_neg cs, if_neg cs]
    exact ⟨by first | trivial | rfl, h⟩
  rw [if_pos cs, if_pos cs]
  obtain ⟨g1, g2, g3, g4, g5, g6, g7, g8, g9⟩ := hpl cs
  have ws := hR_wsum hs0
  have nm := hO_num g4 (by omega)
  refine ⟨?_, h⟩
  rw [g1, g2]
  have w103 : ∀ (m w : Nat), f_HaulFlows_check_h103 (VS0 + VS1) VS2 LP1 NS2 LS8 f_HaulFlows_check_x103 m w = nI 0 := by
    intro m
    induction m with
    | zero => exact fun w => rfl
    | succ m ih =>
      intro w
      rw [f_HaulFlows_check_h103]
      unfold f_HaulFlows_check_h103B
      by_cases c : 12 ≤ w
      · rw [if_pos c]; rfl
      · rw [if_neg c, hh_bind, if_pos ?_]
        · exact ih _
        · rw [h64_le, hO_in (x := hk_X LP1) (by omega) b2 nm, hR_wkfull g4.2.2 w]
          exact g6 w (by omega)
  have w58 : ∀ (m f : Nat), f_HaulFlows_check_h58 VS2 (VS0 + VS1) LP1 LS4 (f_HaulFlows_check_x58 (VS0 + VS1) VS2 LP1 NS2 LS8) m f = nI 0 := by
    intro m
    induction m with
    | zero => exact fun f => w103 13 0
    | succ m ih =>
      intro f
      rw [f_HaulFlows_check_h58]
      unfold f_HaulFlows_check_h58B
      by_cases c : VS2 ≤ f
      · rw [if_pos c]
        exact w103 13 0
      · rw [if_neg c, hh_bind, if_pos ?_]
        · exact ih _
        · apply Int64.toInt_inj.mp
          rw [hO_to (x := hk_X LP1) (by omega) (fun s hs1 => nm s f hs1 (by omega)), g4.2.2 f (by omega)]
          rfl
  have w12 : ∀ (m s : Nat), f_HaulFlows_check_h12 VS0 VS1 VS2 LP1 NS0 LS0 LS6 LS7 (f_HaulFlows_check_x12 VS2 (VS0 + VS1) LP1 LS4 VS2 NS2 LS8) m s = nI 0 := by
    intro m
    induction m with
    | zero => exact fun s => w58 9 0
    | succ m ih =>
      intro s
      rw [f_HaulFlows_check_h12]
      unfold f_HaulFlows_check_h12B
      rw [hh_bind, show f_Site_sources VS0 VS1 = VS0 + VS1 from rfl]
      by_cases c : VS0 + VS1 ≤ s
      · rw [if_pos c]
        exact w58 9 0
      · rw [if_neg c, hh_bind, hh_bind, if_pos ?_]
        · exact ih _
        · rw [h64_le, hO_row (x := hk_X LP1) b2 (fun f hf => nm s f (by omega) hf), show (f_Site_capacity VS0 NS0 LS0 LS6 LS7 s).toInt = _ from hR_cap hs0 s]
          exact hR_row g4 (by omega)
  exact w12 13 0
theorem hO_9 {F VT0 : Nat} {NT0 : Nat → Nat} {IM2 : Nat → Int32} {c : Nat → Bool} {x1 : Int32} (hF : F ≤ 8) (hl : hc_list c F VT0 NT0) (hc : ∀ f, f < F → (c f = true ↔ ¬ IM2 f = 0)) : ∀ (m n f : Nat), F - f < m → f ≤ F → n = hn c f → (∀ f', f' < f → c f' = true → ¬ nI (hn c f') = x1) →
    f_Model_clash_h9 F 2 IM2 x1 f_Model_clash_x9 m n f = (if 0 ≤ x1.toInt ∧ x1.toInt < VT0 then nI (NT0 x1.toNatClampNeg) else -1, 0) := by
  intro m
  induction m with
  | zero => exact fun n f h => absurd h (Nat.not_lt_zero _)
  | succ m ih =>
    intro n f hm hf hn1 hno
    rw [f_Model_clash_h9]
    unfold f_Model_clash_h9B
    by_cases c1 : F ≤ f
    · rw [if_pos c1]
      have e : f = F := by omega
      subst e
      rw [if_neg]
      · rfl
      · intro q
        have k := hy_clamp q.1
        -- some fill has this rank
        have ex : ∀ g, g ≤ f → x1.toNatClampNeg < hn c g → ∃ f', f' < g ∧ c f' = true ∧ hn c f' = x1.toNatClampNeg := by
          intro g
          induction g with
          | zero =>
            intro _ h0
            exact absurd h0 (Nat.not_lt_zero _)
          | succ g ihg =>
            intro hg h0
            have h0' : x1.toNatClampNeg < hn c g + (if c g = true then 1 else 0) := h0
            by_cases d : c g = true
            · rw [if_pos d] at h0'
              by_cases d2 : x1.toNatClampNeg < hn c g
              · obtain ⟨f', a, b, e⟩ := ihg (by omega) d2
                exact ⟨f', by omega, b, e⟩
              · exact ⟨g, by omega, d, by omega⟩
            · rw [if_neg d] at h0'
              obtain ⟨f', a, b, e⟩ := ihg (by omega) (by omega)
              exact ⟨f', by omega, b, e⟩
        have h1 := hl.1
        obtain ⟨f', a, b, e⟩ := ex f (Nat.le_refl _) (by omega)
        exact hno f' a b (by rw [e]; exact k.2)
    · rw [if_neg c1, if_pos rfl]
      have hcf := hc f (by omega)
      have hs1 : hn c (f + 1) = hn c f + (if c f = true then 1 else 0) := rfl
      by_cases d : IM2 f = 0
      · rw [if_pos d]
        have cf : ¬ c f = true := fun q => (hcf.mp q) d
        rw [if_neg cf] at hs1
        refine ih n (f + 1) (by omega) (by omega) (by omega) (fun f' h1 h2 => ?_)
        by_cases e : f' = f
        · subst e; exact absurd h2 cf
        · exact hno f' (by omega) h2
      · rw [if_neg d]
        have cf : c f = true := hcf.mpr d
        rw [if_pos cf] at hs1
        have hn8 := hn_le c f
        by_cases e : nI n = x1
        · rw [if_pos e]
          have e1 : x1.toInt = n := by rw [← e, nI_toInt (by omega)]
          have e2 : x1.toNatClampNeg = n := by rw [← e, nI_clamp (by omega)]
          have lt := hn_lt2 (show f < F by omega) cf
          have h1 := hl.1
          rw [if_pos (by omega), e2, hn1, hl.2 f (by omega) cf]
        · rw [if_neg e]
          refine ih (n + 1) (f + 1) (by omega) (by omega) (by omega) (fun f' h1 h2 => ?_)
          by_cases e2 : f' = f
          · subst e2; rw [← hn1]; exact e
          · exact hno f' (by omega) h2
theorem hi_clash_is : hi_clash hi_Inv := by
  intro VH0 VS0 VS1 VS2 NS0 NS1 NS2 LS0 LS1 LS2 LS3 LS4 LS5 LS6 LS7 LS8 IS0 VY0 LY0 LY1 LY2 IY0 VP0 VP1 VP2 NP0 LP0 LP1 LP2 LP3 LP4 IP0 IP1 VQ0 VQ1 VQ2 NQ0 LQ0 LQ1 LQ2 LQ3 LQ4 IQ0 IQ1 VT0 NT0 NT1 LT0 IT0 VM0 VM1 VM2 VM3 VM4 VM5 WM0 NM0 NM1 NM2 LM0 LM1 LM2 LM3 LM4 LM5 LM6 LM7 LM8 LM9 LM10 LM11 LM12 LM13 LM14 LM15 IM0 IM1 IM2 IM3 x1 h
  obtain ⟨hs0, ⟨q1, q2, q3⟩, hst, hH2, hpl, hcl⟩ := id h
  obtain ⟨e1, e2, e3, e4, e5, e6, e7, e8, e9, e10, e11, e12, e13, e14, e15, e16⟩ := hs0.1
  subst e1 e2 e3 e4 e5 e6 e7 e8 e9 e10 e11 e12 e13 e14 e15 e16
  obtain ⟨-, ⟨b1, b2, b3, b4, b5, b6, b7⟩, h6, h8, hbits, hbars, hv⟩ := id hs0
  subst hst
  have one : (1 : Int64).toInt = 1 := by decide
  have z64 : (0 : Int64).toInt = 0 := by decide
  have m5 : (100000 : Int64).toInt = 100000 := by decide
  have n2 : (2 : Int64).toInt = 2 := by decide
  have n3 : (3 : Int64).toInt = 3 := by decide
  unfold f_HaulFlows_clash f_Model_clash
  by_cases cs : VH0 = 2
  · rw [if_pos cs, hh_bind]
    obtain ⟨B, v, f1, f2, f3, c, f4, f5, f6⟩ := hcl cs
    rw [cs, hO_9 b2 f4 f6 9 0 0 (by omega) (Nat.zero_le _) rfl (fun f' q => absurd q (Nat.not_lt_zero _))]
    rw [cs] at h
    rcases hy_below x1 (show VT0 < 2 ^ 31 by omega) with ⟨cy, p⟩ | ⟨cy, p⟩
    · rw [cy, if_neg (show ¬ nI 1 = 0 by decide), if_pos p]
      exact ⟨rfl, h⟩
    · rw [cy, if_pos (show nI 0 = 0 by decide), if_neg p]
      exact ⟨rfl, h⟩
  · rw [if_neg cs, f_Model_clash_h9]
    unfold f_Model_clash_h9B
    by_cases c : VS2 ≤ 0
    · rw [if_pos c]
      exact ⟨rfl, h⟩
    · rw [if_neg c, if_neg cs]
      exact ⟨rfl, h⟩
