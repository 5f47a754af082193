/-! ===== list(), mass() ===== -/
theorem hO_48 {F : Nat} {NM2 : Nat → Nat} {x1 x2 x3 : Int32} {LP1 LM12 : Nat → Int64} {s : Nat} (he : ∀ f, f < F → LP1 (s * 9 + f) = LM12 (8 * s + f) ∧ 0 ≤ (LP1 (s * 9 + f)).toInt) {k : Int32 → Nat → Int32} {k' : Nat → Nat → Int32 × Nat} (hk : ∀ (l : Int32) (n f : Nat), l.toInt + n = x2.toInt → 0 ≤ l.toInt → k' n f = (k l f, 0)) : ∀ (m : Nat) (l : Int32) (n f : Nat), l.toInt + n = x2.toInt → 0 ≤ l.toInt → f_Model_list_h48 F NM2 x1 LM12 s x2 x3 k' m n f = (f_HaulFlows_list_h52 F NM2 x1 LP1 s x3 k m l f, 0) := by
  intro m
  induction m with
  | zero => exact fun l n f h1 h2 => hk l n f h1 h2
  | succ m ih =>
    intro l n f h1 h2
    rw [f_Model_list_h48, f_HaulFlows_list_h52]
    unfold f_Model_list_h48B f_HaulFlows_list_h52B
    by_cases c : F ≤ f
    · rw [if_pos c, if_pos c]
      exact hk l n f h1 h2
    · rw [if_neg c, if_neg c]
      by_cases d : nI (NM2 f) = x1
      · rw [if_pos d, if_pos d, hh_bind]
        have e := he f (by omega)
        have ea : f_Plan_amount LP1 s f = LM12 (8 * s + f) := e.1
        rw [ea, hh_bind]
        rw [e.1] at e
        by_cases z : LM12 (8 * s + f) = 0
        · rw [if_pos z, if_pos (show LM12 (8 * s + f) ≤ 0 by rw [z]; exact Int64.le_refl _)]
          exact ih _ _ _ h1 h2
        · have nz : ¬ LM12 (8 * s + f) ≤ 0 := by
            intro q
            rw [h64_le, h64_0] at q
            exact z (Int64.toInt_inj.mp (by rw [h64_0]; omega))
          rw [if_neg z, if_neg nz]
          have b := Int32.toInt_lt x2
          have n31 : n < 2 ^ 31 := by omega
          have z32 : (0 : Int32).toInt = 0 := by decide
          by_cases y : l = 0
          · have y2 : nI n = x2 := by
              apply Int32.toInt_inj.mp
              rw [nI_toInt (by omega)]
              rw [y, z32] at h1
              omega
            rw [if_pos y, if_pos y2]
            by_cases w : x3 = 0
            · rw [if_pos w, if_pos w]
            · rw [if_neg w, if_neg w]
              by_cases w2 : x3 = nI 1
              · rw [if_pos w2, if_pos w2]
              · rw [if_neg w2, if_neg w2]
          · have l0 : l.toInt ≠ 0 := fun q => y (Int32.toInt_inj.mp (by rw [q, z32]))
            have y2 : ¬ nI n = x2 := by
              intro q
              rw [← q, nI_toInt n31] at h1
              omega
            rw [if_neg y, if_neg y2]
            have lm : (l + -1).toInt = l.toInt - 1 := by
              have m1 : (-1 : Int32).toInt = -1 := by decide
              have lb := Int32.toInt_lt l
              rw [Int32.toInt_add, m1]
              exact Int.bmod_eq_of_le (by omega) (by omega)
            exact ih _ _ _ (by rw [lm]; omega) (by rw [lm]; omega)
      · rw [if_neg d, if_neg d]
        exact ih _ _ _ h1 h2
theorem hO_11 {VM1 VM4 F : Nat} {NM2 : Nat → Nat} {x1 x2 x3 : Int32} {LP1 LM12 : Nat → Int64} (he : ∀ s f, s < VM1 + VM4 → f < F → LP1 (s * 9 + f) = LM12 (8 * s + f) ∧ 0 ≤ (LP1 (s * 9 + f)).toInt) (h3 : f_Model_isIn x3.toInt64 0 2 = nI 1) : ∀ (m : Nat) (l : Int32) (n s : Nat), l.toInt + n = x2.toInt → 0 ≤ l.toInt → f_Model_list_h11 VM1 VM4 1 x3 F NM2 x1 LM12 x2 f_Model_list_x11 m n s = (f_HaulFlows_list_h37 VM1 VM4 F NM2 x1 LP1 x3 f_HaulFlows_list_x37 m l s, 0) := by
  intro m
  induction m with
  | zero => exact fun l n s _ _ => rfl
  | succ m ih =>
    intro l n s h1 h2
    rw [f_Model_list_h11, f_HaulFlows_list_h37]
    unfold f_Model_list_h11B f_HaulFlows_list_h37B
    have hb : ∀ (g : Nat → Int32), hh_bind (f_Site_sources VM1 VM4) g = g (VM1 + VM4) := fun g => rfl
    rw [hb]
    by_cases c : VM1 + VM4 ≤ s
    · rw [if_pos c, if_pos c]
      rfl
    · rw [if_neg c, if_neg c, if_pos rfl, hh_bind, h3, if_neg (show ¬ nI 1 = 0 by decide)]
      exact hO_48 (fun f hf => he s f (by omega) hf) (fun l' n' f' a b => ih l' n' (s + 1) a b) 9 l n 0 h1 h2
/-- no move of that week, or no such move -/
theorem hO_48n {F : Nat} {NM2 : Nat → Nat} {x1 x2 x3 : Int32} {LM12 : Nat → Int64} {s : Nat} (hno : (∀ f, ¬ nI (NM2 f) = x1) ∨ x2.toInt < 0) {N : Nat} (hN : N < 1000) {k' : Nat → Nat → Int32 × Nat} (hk : ∀ n f, n ≤ N + 8 → k' n f = (-1, 0)) : ∀ (m n f : Nat), n ≤ N + f → f ≤ 8 → F ≤ 8 → f_Model_list_h48 F NM2 x1 LM12 s x2 x3 k' m n f = (-1, 0) := by
  intro m
  induction m with
  | zero => exact fun n f h1 h2 _ => hk n f (by omega)
  | succ m ih =>
    intro n f h1 h2 hF
    rw [f_Model_list_h48]
    unfold f_Model_list_h48B
    by_cases c : F ≤ f
    · rw [if_pos c]
      exact hk n f (by omega)
    · rw [if_neg c]
      by_cases d : nI (NM2 f) = x1
      · rw [if_pos d]
        rcases hno with q | q
        · exact absurd d (q f)
        · by_cases z : LM12 (8 * s + f) ≤ 0
          · rw [if_pos z]
            exact ih _ _ (by omega) (by omega) hF
          · rw [if_neg z, if_neg]
            · exact ih _ _ (by omega) (by omega) hF
            · intro e
              rw [← e, nI_toInt (by omega)] at q
              omega
      · rw [if_neg d]
        exact ih _ _ (by omega) (by omega) hF
theorem hO_11n {VM1 VM4 F VM5 : Nat} {NM2 : Nat → Nat} {x1 x2 x3 : Int32} {LM12 : Nat → Int64} (hF : F ≤ 8) (hn : VM1 + VM4 ≤ 12) (hno : (∀ f, ¬ nI (NM2 f) = x1) ∨ x2.toInt < 0) : ∀ (m n s : Nat), n ≤ 8 * s → s ≤ 12 → f_Model_list_h11 VM1 VM4 VM5 x3 F NM2 x1 LM12 x2 f_Model_list_x11 m n s = (-1, 0) := by
  intro m
  induction m with
  | zero => exact fun n s _ _ => rfl
  | succ m ih =>
    intro n s h1 h2
    rw [f_Model_list_h11]
    unfold f_Model_list_h11B
    by_cases c : VM1 + VM4 ≤ s
    · rw [if_pos c]
      rfl
    · rw [if_neg c]
      by_cases d : VM5 = 1
      · rw [if_pos d, hh_bind]
        by_cases e : f_Model_isIn x3.toInt64 0 2 = 0
        · rw [if_pos e]
          rfl
        · rw [if_neg e]
          exact hO_48n (N := 8 * s) hno (by omega) (fun n' f' a => ih n' (s + 1) (by omega) (by omega)) 9 n 0 (by omega) (by omega) hF
      · rw [if_neg d]
        rfl
theorem hO_11b {VM1 VM4 F VM5 : Nat} {NM2 : Nat → Nat} {x1 x2 x3 : Int32} {LM12 : Nat → Int64} (h3 : ¬ (VM5 = 1 ∧ ¬ f_Model_isIn x3.toInt64 0 2 = 0)) (m n s : Nat) : f_Model_list_h11 VM1 VM4 VM5 x3 F NM2 x1 LM12 x2 f_Model_list_x11 m n s = (-1, 0) := by
  cases m with
  | zero => rfl
  | succ m =>
    rw [f_Model_list_h11]
    unfold f_Model_list_h11B
    by_cases c : VM1 + VM4 ≤ s
    · rw [if_pos c]
      rfl
    · rw [if_neg c]
      by_cases d : VM5 = 1
      · rw [if_pos d, hh_bind]
        by_cases e : f_Model_isIn x3.toInt64 0 2 = 0
        · rw [if_pos e]
          rfl
        · exact absurd ⟨d, e⟩ h3
      · rw [if_neg d]
        rfl
theorem hi_list_is : hi_list hi_Inv := by
  intro VH0 VS0 VS1 VS2 NS0 NS1 NS2 LS0 LS1 LS2 LS3 LS4 LS5 LS6 LS7 LS8 IS0 VY0 LY0 LY1 LY2 IY0 VP0 VP1 VP2 NP0 LP0 LP1 LP2 LP3 LP4 IP0 IP1 VQ0 VQ1 VQ2 NQ0 LQ0 LQ1 LQ2 LQ3 LQ4 IQ0 IQ1 VT0 NT0 NT1 LT0 IT0 VM0 VM1 VM2 VM3 VM4 VM5 WM0 NM0 NM1 NM2 LM0 LM1 LM2 LM3 LM4 LM5 LM6 LM7 LM8 LM9 LM10 LM11 LM12 LM13 LM14 LM15 IM0 IM1 IM2 IM3 x1 x2 x3 h
  obtain ⟨hs0, ⟨q1, q2, q3⟩, hst, hH2, hpl, hcl⟩ := id h
  obtain ⟨e1, e2, e3, e4, e5, e6, e7, e8, e9, e10, e11, e12, e13, e14, e15, e16⟩ := hs0.1
  subst e1 e2 e3 e4 e5 e6 e7 e8 e9 e10 e11 e12 e13 e14 e15 e16
  obtain ⟨-, ⟨b1, b2, b3, b4, b5, b6, b7⟩, h6, h8, hbits, hbars, hv⟩ := id hs0
  subst hst
  have one : (1 : Int64).toInt = 1 := by decide
  have z64 : (0 : Int64).toInt = 0 := by decide
  have m5 : (100000 : Int64).toInt = 100000 := by decide
  have n2 : (2 : Int64).toInt = 2 := by decide
  have n3 : (3 : Int64).toInt = 3 := by decide
  unfold f_HaulFlows_list f_Model_list
  simp only [hh_bind]
  by_cases cs : VH0 = 1
  case neg =>
    rw [if_neg cs, hO_11b (fun q => cs q.1)]
    exact ⟨rfl, h⟩
  rw [if_pos cs]
  obtain ⟨g1, g2, g3, g4, g5, g6, g7, g8, g9⟩ := hpl cs
  rcases hy_below x1 (show 12 < 2 ^ 31 by omega) with ⟨cy, p⟩ | ⟨cy, p⟩
  case inr =>
    rw [cy, if_pos (show nI 0 = 0 by decide), hO_11n b2 (by omega) (Or.inl (fun f e => p (by
      have w := b7 f
      rw [← e, nI_toInt (by omega)]
      omega))) 13 0 0 (by omega) (by omega)]
    exact ⟨rfl, h⟩
  rw [cy, if_neg (show ¬ nI 1 = 0 by decide)]
  have z32 : (0 : Int32).toInt = 0 := by decide
  by_cases n2' : x2 < 0
  · rw [if_pos n2', hO_11n b2 (by omega) (Or.inr (by rw [Int32.lt_iff_toInt_lt, z32] at n2'; exact n2')) 13 0 0 (by omega) (by omega)]
    exact ⟨rfl, h⟩
  rw [if_neg n2']
  rw [Int32.lt_iff_toInt_lt, z32] at n2'
  have mm : (f_Model_isIn x3.toInt64 0 2 = nI 1 ∧ (0 ≤ x3.toInt ∧ x3.toInt < 3)) ∨ (f_Model_isIn x3.toInt64 0 2 = nI 0 ∧ ¬ (0 ≤ x3.toInt ∧ x3.toInt < 3)) := by
    have k := hy_in x3.toInt64 0 2
    rw [z64, n2, hy_64] at k
    rcases k with ⟨k1, k2⟩ | ⟨k1, k2⟩
    · exact Or.inl ⟨k1, by omega⟩
    · exact Or.inr ⟨k1, by omega⟩
  rcases hy_below x3 (show 3 < 2 ^ 31 by omega) with ⟨cy3, p3⟩ | ⟨cy3, p3⟩
  · have my : f_Model_isIn x3.toInt64 0 2 = nI 1 := by
      rcases mm with ⟨a, b⟩ | ⟨a, b⟩
      · exact a
      · exact absurd p3 b
    rw [cy3, if_neg (show ¬ nI 1 = 0 by decide)]
    refine ⟨?_, h⟩
    rw [cs, hO_11 (LP1 := LP1) (fun s f a b => ⟨g8 s f a b, g4.1.nn a b⟩) my 13 x2 0 0 (by omega) (by omega)]
  · have my : f_Model_isIn x3.toInt64 0 2 = nI 0 := by
      rcases mm with ⟨a, b⟩ | ⟨a, b⟩
      · exact absurd b p3
      · exact a
    rw [cy3, if_pos (show nI 0 = 0 by decide), hO_11b (fun q => q.2 (by rw [my]; decide))]
    exact ⟨rfl, h⟩
theorem hO_153k {VM1 VM4 F : Nat} {x3 : Int32} {LM1 LM9 LM3 LM12 : Nat → Int64} {x1 : Int64} (h : x3 ≤ nI 1) (m : Nat) (acc : Int64) (s : Nat) : f_Model_mass_h153 VM1 VM4 x3 F LM1 LM9 x1 LM3 LM12 f_Model_mass_x153 m acc s = (acc, 0) := by
  cases m with
  | zero => rfl
  | succ m =>
    rw [f_Model_mass_h153]
    unfold f_Model_mass_h153B
    by_cases c : VM1 + VM4 ≤ s
    · rw [if_pos c]; rfl
    · rw [if_neg c, if_pos h]; rfl
theorem hO_101k {F : Nat} {x3 : Int32} {x1 : Int64} {LM3 LM2 : Nat → Int64} {k : Int64 → Nat → Int64 × Nat} (hk : ∀ a f f', k a f = k a f') (h : ¬ x3 = nI 1) (m : Nat) (acc : Int64) (f : Nat) : f_Model_mass_h101 F x3 x1 LM3 LM2 k m acc f = k acc 0 := by
  cases m with
  | zero => exact hk _ _ _
  | succ m =>
    rw [f_Model_mass_h101]
    unfold f_Model_mass_h101B
    by_cases c : F ≤ f
    · rw [if_pos c]; exact hk _ _ _
    · rw [if_neg c, if_neg h]; exact hk _ _ _
theorem hO_51k {VM1 : Nat} {x3 : Int32} {x1 : Int64} {LM1 : Nat → Int64} {NM0 : Nat → Nat} {LM0 LM4 LM5 : Nat → Int64} {k : Int64 → Nat → Int64 × Nat} (hk : ∀ a f f', k a f = k a f') (h : ¬ x3 = 0) (m : Nat) (acc : Int64) (f : Nat) : f_Model_mass_h51 VM1 x3 x1 LM1 NM0 LM0 LM4 LM5 k m acc f = k acc 0 := by
  cases m with
  | zero => exact hk _ _ _
  | succ m =>
    rw [f_Model_mass_h51]
    unfold f_Model_mass_h51B
    by_cases c : VM1 ≤ f
    · rw [if_pos c]; exact hk _ _ _
    · rw [if_neg c, if_neg h]; exact hk _ _ _
theorem hO_51 {VM1 : Nat} {x1 : Int64} {LM1 : Nat → Int64} {NM0 : Nat → Nat} {LM0 LM4 LM5 LS6 LS7 : Nat → Int64} (hg : ∀ s, f_Site_gives NM0 LM0 LS6 LS7 s = f_Model_gives NM0 LM0 LM4 LM5 s) {k : Int64 → Nat → Int64 × Nat} (hk : ∀ a f f', k a f = k a f') : ∀ (m : Nat) (acc : Int64) (f : Nat), f_Model_mass_h51 VM1 0 x1 LM1 NM0 LM0 LM4 LM5 k m acc f = k (f_Site_givenUpTo_h5 VM1 x1 LM1 NM0 LM0 LS6 LS7 f_Site_givenUpTo_x5 m acc f) 0 := by
  intro m
  induction m with
  | zero => exact fun acc f => hk _ _ _
  | succ m ih =>
    intro acc f
    rw [f_Model_mass_h51, f_Site_givenUpTo_h5]
    unfold f_Model_mass_h51B f_Site_givenUpTo_h5B
    by_cases c : VM1 ≤ f
    · rw [if_pos c, if_pos c]; exact hk _ _ _
    · rw [if_neg c, if_neg c, if_pos rfl]
      by_cases d : x1 < LM1 f
      · rw [if_pos d, if_pos d]; exact ih _ _
      · rw [if_neg d, if_neg d, hh_bind, hh_bind, hg]; exact ih _ _
theorem hO_101 {F : Nat} {x1 : Int64} {LM3 LM2 : Nat → Int64} {k : Int64 → Nat → Int64 × Nat} (hk : ∀ a f f', k a f = k a f') : ∀ (m : Nat) (acc : Int64) (f : Nat), f_Model_mass_h101 F (nI 1) x1 LM3 LM2 k m acc f = k (f_Site_wantedUpTo_h5 F x1 LM3 LM2 f_Site_wantedUpTo_x5 m acc f) 0 := by
  intro m
  induction m with
  | zero => exact fun acc f => hk _ _ _
  | succ m ih =>
    intro acc f
    rw [f_Model_mass_h101, f_Site_wantedUpTo_h5]
    unfold f_Model_mass_h101B f_Site_wantedUpTo_h5B
    by_cases c : F ≤ f
    · rw [if_pos c, if_pos c]; exact hk _ _ _
    · rw [if_neg c, if_neg c, if_pos rfl]
      by_cases d : x1 < LM3 f
      · rw [if_pos d, if_pos d]; exact ih _ _
      · rw [if_neg d, if_neg d]; exact ih _ _
theorem hO_175 {F VM1 : Nat} {LM1 LM9 LM3 LP1 LM12 : Nat → Int64} {s : Nat} {x1 : Int64} (he : ∀ f, f < F → LP1 (s * 9 + f) = LM12 (8 * s + f)) {x3 y3 : Int32} (hx : (x3 = nI 2 ∧ y3 = nI 1) ∨ (x3 = nI 3 ∧ y3 = nI 0)) {here : Nat} (hh : here = if x1 < f_Model_metreOf VM1 LM1 LM9 s then 0 else 1) {k : Int64 → Nat → Nat → Int64} {k' : Int64 → Nat → Int64 × Nat} (hk : ∀ a f, k' a f = (k a here f, 0)) : ∀ (m : Nat) (acc : Int64) (f : Nat), f_Model_mass_h175 F VM1 LM1 LM9 s x1 LM3 x3 LM12 k' m acc f = (f_Plan_amountAcross_h39 F x1 LM3 y3 LP1 s k m acc here f, 0) := by
  intro m
  induction m with
  | zero => exact fun acc f => hk _ _
  | succ m ih =>
    intro acc f
    rw [f_Model_mass_h175, f_Plan_amountAcross_h39]
    unfold f_Model_mass_h175B f_Plan_amountAcross_h39B
    by_cases c : F ≤ f
    · rw [if_pos c, if_pos c]; exact hk _ _
    · rw [if_neg c, if_neg c, hh_bind]
      have ea : f_Plan_amount LP1 s f = LM12 (8 * s + f) := he f (by omega)
      have hb : ∀ (g : Int64 → Int64), hh_bind (f_Plan_amount LP1 s f) g = g (LM12 (8 * s + f)) := fun g => by rw [ea]; rfl
      rw [hb]
      by_cases d : x1 < f_Model_metreOf VM1 LM1 LM9 s
      · rw [if_pos d] at hh ⊢
        subst hh
        by_cases e : x1 < LM3 f
        · rw [if_pos e, if_pos e, if_pos rfl]
          rcases hx with ⟨a, b⟩ | ⟨a, b⟩
          · rw [if_neg (show ¬ nI 0 = y3 by rw [b]; decide)]; exact ih _ _
          · rw [if_pos (show nI 0 = y3 by rw [b]), if_pos (show nI 0 = y3 by rw [b])]; exact ih _ _
        · rw [if_neg e, if_neg e, if_neg (show ¬ 0 = 1 by decide)]
          rcases hx with ⟨a, b⟩ | ⟨a, b⟩
          · rw [if_pos a, if_neg (show ¬ 0 = 1 by decide), if_neg (show ¬ nI 0 = y3 by rw [b]; decide)]; exact ih _ _
          · rw [if_neg (show ¬ x3 = nI 2 by rw [a]; decide), if_pos rfl, if_pos (show nI 0 = y3 by rw [b]), if_neg (show ¬ nI 1 = y3 by rw [b]; decide)]; exact ih _ _
      · rw [if_neg d] at hh ⊢
        subst hh
        by_cases e : x1 < LM3 f
        · rw [if_pos e, if_pos e, if_neg (show ¬ 1 = 0 by decide)]
          rcases hx with ⟨a, b⟩ | ⟨a, b⟩
          · rw [if_pos a, if_pos rfl, if_pos (show nI 1 = y3 by rw [b]), if_neg (show ¬ nI 0 = y3 by rw [b]; decide)]; exact ih _ _
          · rw [if_neg (show ¬ x3 = nI 2 by rw [a]; decide), if_neg (show ¬ 1 = 0 by decide), if_neg (show ¬ nI 1 = y3 by rw [b]; decide)]; exact ih _ _
        · rw [if_neg e, if_neg e, if_pos rfl]
          rcases hx with ⟨a, b⟩ | ⟨a, b⟩
          · rw [if_pos (show nI 1 = y3 by rw [b]), if_pos (show nI 1 = y3 by rw [b])]; exact ih _ _
          · rw [if_neg (show ¬ nI 1 = y3 by rw [b]; decide)]; exact ih _ _
theorem hO_153 {VM1 VM4 F : Nat} {LM1 LM9 LM3 LP1 LM12 : Nat → Int64} {x1 : Int64} (he : ∀ s f, s < VM1 + VM4 → f < F → LP1 (s * 9 + f) = LM12 (8 * s + f)) {x3 y3 : Int32} (hx : (x3 = nI 2 ∧ y3 = nI 1) ∨ (x3 = nI 3 ∧ y3 = nI 0)) : ∀ (m : Nat) (acc : Int64) (s : Nat), f_Model_mass_h153 VM1 VM4 x3 F LM1 LM9 x1 LM3 LM12 f_Model_mass_x153 m acc s = (f_Plan_amountAcross_h6 (VM1 + VM4) VM1 LM1 LM9 x1 F LM3 y3 LP1 f_Plan_amountAcross_x6 m acc s, 0) := by
  have nx : ¬ x3 ≤ nI 1 := by
    rcases hx with ⟨a, -⟩ | ⟨a, -⟩ <;> rw [a] <;> decide
  intro m
  induction m with
  | zero => exact fun acc s => rfl
  | succ m ih =>
    intro acc s
    rw [f_Model_mass_h153, f_Plan_amountAcross_h6]
    unfold f_Model_mass_h153B f_Plan_amountAcross_h6B
    by_cases c : VM1 + VM4 ≤ s
    · rw [if_pos c, if_pos c]; rfl
    · rw [if_neg c, if_neg c, if_neg nx, hh_bind, show f_Site_metreOf VM1 LM1 LM9 s = f_Model_metreOf VM1 LM1 LM9 s from rfl]
      by_cases d : x1 < f_Model_metreOf VM1 LM1 LM9 s
      · rw [if_pos d]
        exact hO_175 (fun f hf => he s f (by omega) hf) hx (here := 0) (by rw [if_pos d]) (fun a f => ih a (s + 1)) 9 acc 0
      · rw [if_neg d]
        exact hO_175 (fun f hf => he s f (by omega) hf) hx (here := 1) (by rw [if_neg d]) (fun a f => ih a (s + 1)) 9 acc 0
theorem hi_mass_is : hi_mass hi_Inv := by
  intro VH0 VS0 VS1 VS2 NS0 NS1 NS2 LS0 LS1 LS2 LS3 LS4 LS5 LS6 LS7 LS8 IS0 VY0 LY0 LY1 LY2 IY0 VP0 VP1 VP2 NP0 LP0 LP1 LP2 LP3 LP4 IP0 IP1 VQ0 VQ1 VQ2 NQ0 LQ0 LQ1 LQ2 LQ3 LQ4 IQ0 IQ1 VT0 NT0 NT1 LT0 IT0 VM0 VM1 VM2 VM3 VM4 VM5 WM0 NM0 NM1 NM2 LM0 LM1 LM2 LM3 LM4 LM5 LM6 LM7 LM8 LM9 LM10 LM11 LM12 LM13 LM14 LM15 IM0 IM1 IM2 IM3 x1 x3 h
  obtain ⟨hs0, ⟨q1, q2, q3⟩, hst, hH2, hpl, hcl⟩ := id h
  obtain ⟨e1, e2, e3, e4, e5, e6, e7, e8, e9, e10, e11, e12, e13, e14, e15, e16⟩ := hs0.1
  subst e1 e2 e3 e4 e5 e6 e7 e8 e9 e10 e11 e12 e13 e14 e15 e16
  obtain ⟨-, ⟨b1, b2, b3, b4, b5, b6, b7⟩, h6, h8, hbits, hbars, hv⟩ := id hs0
  subst hst
  have one : (1 : Int64).toInt = 1 := by decide
  have z64 : (0 : Int64).toInt = 0 := by decide
  have m5 : (100000 : Int64).toInt = 100000 := by decide
  have n2 : (2 : Int64).toInt = 2 := by decide
  have n3 : (3 : Int64).toInt = 3 := by decide
  unfold f_HaulFlows_mass f_Model_mass
  simp only [hh_bind]
  have c0 : (f_HaulFlows_isMetre x1 = nI 1 ∧ (0 ≤ x1.toInt ∧ x1.toInt ≤ 100000)) ∨ (f_HaulFlows_isMetre x1 = nI 0 ∧ ¬ (0 ≤ x1.toInt ∧ x1.toInt ≤ 100000)) := by have k := hy_in x1 0 100000; rw [z64, m5] at k; exact k
  have m0 : (f_Model_isIn x1 0 100000 = nI 1 ∧ (0 ≤ x1.toInt ∧ x1.toInt ≤ 100000)) ∨ (f_Model_isIn x1 0 100000 = nI 0 ∧ ¬ (0 ≤ x1.toInt ∧ x1.toInt ≤ 100000)) := by have k := hy_in x1 0 100000; rw [z64, m5] at k; exact k
  rcases c0 with ⟨cy0, p0⟩ | ⟨cy0, p0⟩
  case inr =>
    have my : f_Model_isIn x1 0 100000 = nI 0 := by rcases m0 with ⟨a, b⟩ | ⟨a, b⟩; exact absurd b p0; exact a
    simp only [cy0, my, show (nI 0 = 0) = True from eq_true (by decide), if_true]
    exact ⟨by first | trivial | rfl, h⟩
  have my0 : f_Model_isIn x1 0 100000 = nI 1 := by rcases m0 with ⟨a, b⟩ | ⟨a, b⟩; exact a; exact absurd p0 b
  simp only [cy0, my0, show (nI 1 = 0) = False from eq_false (by decide), if_false]
  have c1 : (f_HaulFlows_isBelow x3 (nI 4) = nI 1 ∧ (0 ≤ x3.toInt ∧ x3.toInt < 4)) ∨ (f_HaulFlows_isBelow x3 (nI 4) = nI 0 ∧ ¬ (0 ≤ x3.toInt ∧ x3.toInt < 4)) := hy_below x3 (show 4 < 2 ^ 31 by omega)
  have m1 : (f_Model_isIn x3.toInt64 0 3 = nI 1 ∧ (0 ≤ x3.toInt ∧ x3.toInt < 4)) ∨ (f_Model_isIn x3.toInt64 0 3 = nI 0 ∧ ¬ (0 ≤ x3.toInt ∧ x3.toInt < 4)) := by have k := hy_in x3.toInt64 0 3; rw [z64, n3, hy_64] at k; rcases k with ⟨k1, k2⟩ | ⟨k1, k2⟩; exact Or.inl ⟨k1, by omega⟩; exact Or.inr ⟨k1, by omega⟩
  rcases c1 with ⟨cy1, p1⟩ | ⟨cy1, p1⟩
  case inr =>
    have my : f_Model_isIn x3.toInt64 0 3 = nI 0 := by rcases m1 with ⟨a, b⟩ | ⟨a, b⟩; exact absurd b p1; exact a
    simp only [cy1, my, show (nI 0 = 0) = True from eq_true (by decide), if_true]
    exact ⟨by first | trivial | rfl, h⟩
  have my1 : f_Model_isIn x3.toInt64 0 3 = nI 1 := by rcases m1 with ⟨a, b⟩ | ⟨a, b⟩; exact a; exact absurd p1 b
  simp only [cy1, my1, show (nI 1 = 0) = False from eq_false (by decide), if_false]
  have hx3 : x3 = nI 0 ∨ x3 = nI 1 ∨ x3 = nI 2 ∨ x3 = nI 3 := by
    have e0 : (nI 0).toInt = 0 := by decide
    have e1 : (nI 1).toInt = 1 := by decide
    have e2 : (nI 2).toInt = 2 := by decide
    have e3 : (nI 3).toInt = 3 := by decide
    have hc : x3.toInt = 0 ∨ x3.toInt = 1 ∨ x3.toInt = 2 ∨ x3.toInt = 3 := by omega
    rcases hc with q | q | q | q
    · exact Or.inl (Int32.toInt_inj.mp (by omega))
    · exact Or.inr (Or.inl (Int32.toInt_inj.mp (by omega)))
    · exact Or.inr (Or.inr (Or.inl (Int32.toInt_inj.mp (by omega))))
    · exact Or.inr (Or.inr (Or.inr (Int32.toInt_inj.mp (by omega))))
  rcases hx3 with e | e | e | e
  · rw [e, if_pos (show nI 0 < nI 2 by decide), if_pos rfl, if_pos (show nI 0 ≤ nI 1 by decide), show nI 0 = 0 from by decide, hO_51 (LS6 := LS6) (LS7 := LS7) (fun s => hy_gives hv h6 b5 s) (fun _ _ _ => rfl)]
    unfold f_Model_mass_x51
    rw [hO_101k (fun _ _ _ => rfl) (by decide)]
    unfold f_Model_mass_x101
    rw [hO_153k (by decide)]
    exact ⟨rfl, h⟩
  · rw [e, if_pos (show nI 1 < nI 2 by decide), if_neg (show ¬ nI 1 = nI 0 by decide), if_pos rfl, if_pos (show nI 1 ≤ nI 1 by decide), hO_51k (fun _ _ _ => rfl) (by decide)]
    unfold f_Model_mass_x51
    rw [hO_101 (fun _ _ _ => rfl)]
    unfold f_Model_mass_x101
    rw [hO_153k (by decide)]
    exact ⟨rfl, h⟩
  · rw [e, if_neg (show ¬ nI 2 < nI 2 by decide), if_neg (show ¬ nI 2 ≤ nI 1 by decide)]
    by_cases cs : VH0 = 1
    · obtain ⟨g1, g2, g3, g4, g5, g6, g7, g8, g9⟩ := hpl cs
      rw [if_pos cs, if_pos cs, if_neg (show ¬ nI 2 = nI 0 by decide), if_neg (show ¬ nI 2 = nI 1 by decide), if_pos rfl, hO_51k (fun _ _ _ => rfl) (by decide)]
      unfold f_Model_mass_x51
      rw [hO_101k (fun _ _ _ => rfl) (by decide)]
      unfold f_Model_mass_x101
      rw [hO_153 (LP1 := LP1) g8 (Or.inl ⟨rfl, rfl⟩)]
      refine ⟨?_, h⟩
      rw [g1, g2]
      rfl
    · rw [if_neg cs, if_neg cs]
      exact ⟨by first | trivial | rfl, h⟩
  · rw [e, if_neg (show ¬ nI 3 < nI 2 by decide), if_neg (show ¬ nI 3 ≤ nI 1 by decide)]
    by_cases cs : VH0 = 1
    · obtain ⟨g1, g2, g3, g4, g5, g6, g7, g8, g9⟩ := hpl cs
      rw [if_pos cs, if_pos cs, if_neg (show ¬ nI 3 = nI 0 by decide), if_neg (show ¬ nI 3 = nI 1 by decide), if_neg (show ¬ nI 3 = nI 2 by decide), hO_51k (fun _ _ _ => rfl) (by decide)]
      unfold f_Model_mass_x51
      rw [hO_101k (fun _ _ _ => rfl) (by decide)]
      unfold f_Model_mass_x101
      rw [hO_153 (LP1 := LP1) g8 (Or.inr ⟨rfl, rfl⟩)]
      refine ⟨?_, h⟩
      rw [g1, g2]
      rfl
    · rw [if_neg cs, if_neg cs]
      exact ⟨by first | trivial | rfl, h⟩
