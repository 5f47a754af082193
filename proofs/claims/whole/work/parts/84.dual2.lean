section HLESS
variable {VM1 VM2 VM3 VM4 : Nat} {NM0 NM1 NM2 : Nat → Nat} {LM0 LM1 LM2 LM3 LM4 LM5 LM6 LM7 LM8 LM9 LM10 LM11 LS6 LS7 LS8 : Nat → Int64} {IM0 IM1 IS0 IY0 : Nat → Int32}
/-- one less from a cut -/
theorem hD_less (hs0 : hI_S VM1 VM4 VM2 NM0 NM1 NM2 LM0 LM1 LM9 LM10 LM2 LM3 LS6 LS7 LS8 IS0 VM3 LM6 LM7 LM8 IY0 VM1 VM2 VM3 VM4 NM0 NM1 NM2 LM0 LM1 LM2 LM3 LM4 LM5 LM6 LM7 LM8 LM9 LM10 LM11 IM0 IM1) {LP0 LP1 LP2 LP3 : Nat → Int64} (hU : hI_U VM1 VM2 VM3 VM4 NM0 NM1 NM2 LM1 LM3 LM6 LM7 LM8 LM9 LM10 IM0 IM1 (-2) LP0) (hS : hk_S (VM1 + VM4) VM2 LP0 (hI_C VM1 NM0 LM0 LM4 LM5) (hI_w LM2) LP1 LP2 LP3) (hZ : hk_Z (VM1 + VM4) VM2 LP1 LP3) (hwks : hI_wks VM2 NM2 LM2 (fun w => (LS8 w).toInt)) {k : Nat} (hk : k < VM1) (LP4 : Nat → Int64) (IP0 IP1 : Nat → Int32)
    {d : Nat → Nat → Int64} {CO : Nat → Int64} {r : Int64 × (Nat → Int64) × (Nat → Int64) × (Nat → Int32)} (h : hM_sent (VM1 + VM4) VM2 VM1 (hz_svp VM1 NM0 NM1 NM2 IM0) (fun s => if s = k then hI_C VM1 NM0 LM0 LM4 LM5 s - 1 else hI_C VM1 NM0 LM0 LM4 LM5 s) (hI_w LM2) NM2 (fun w => (LM11 w).toInt) (hI_u VM1 VM3 NM2 LM1 LM3 LM6 LM7 LM8 LM9 LM10 IM1 (-2)) d CO r) :
    ((f_Plan_priceOfOneLess (VM1 + VM4) VM2 LP0 LP1 LP2 LP3 LP4 IP0 IP1 k).1 = -1 ∧ ¬ r.1.toInt = hs (hI_w LM2) VM2) ∨ (0 ≤ (f_Plan_priceOfOneLess (VM1 + VM4) VM2 LP0 LP1 LP2 LP3 LP4 IP0 IP1 k).1.toInt ∧ r.1.toInt = hs (hI_w LM2) VM2 ∧ (f_Plan_priceOfOneLess (VM1 + VM4) VM2 LP0 LP1 LP2 LP3 LP4 IP0 IP1 k).1.toInt = (f_Model_total VM1 VM2 VM4 NM0 NM1 NM2 r.2.1 CO IM0).toInt - hcost (hI_u VM1 VM3 NM2 LM1 LM3 LM6 LM7 LM8 LM9 LM10 IM1 (-2)) (hk_X LP1) (VM1 + VM4) VM2) := by
  obtain ⟨-, ⟨b1, b2, b3, b4, b5, b6, b7⟩, h6, h8, hbits, hbars, hv⟩ := id hs0
  have ws := hR_wsum hs0
  have one : (1 : Int64).toInt = 1 := by decide
  have hkn : k < VM1 + VM4 := by omega
  have hn12 : VM1 + VM4 ≤ 12 := by omega
  unfold f_Plan_priceOfOneLess
  rw [hh_bind]
  have hst : k < VM1 + VM4 ∨ (12 ≤ k ∧ k < 12 + VM2) := Or.inl hkn
  have ho := hk_search hn12 b2 hS.1 hst LP4 IP0 IP1
  generalize f_Plan_search (VM1 + VM4) VM2 LP0 LP1 LP2 LP3 LP4 IP0 IP1 k = y at ho ⊢
  have hR := hI_U.R hs0 hU
  rcases ho with ⟨o1, ⟨t, o2⟩, o3⟩ | ⟨j, t, o1, o2, o3⟩
  · rw [o1, if_neg (by decide)]
    refine Or.inl ⟨rfl, hD_no hs0 h (by omega) (fun z z1 z2 => ?_)⟩
    have kk := hk_none hn12 b2 hS o2 o3 (y := z) (cy := fun s => if s = k then hI_C VM1 NM0 LM0 LM4 LM5 s - 1 else hI_C VM1 NM0 LM0 LM4 LM5 s) (fun s f a1 a2 => ⟨(z1.1 s f a1 a2).1, fun q => (z1.1 s f a1 a2).2 (fun hsv => ((hR.1 s f a1 a2).1 hsv).1 (Classical.byContradiction q))⟩) (fun s a1 => by
      by_cases q : s < VM1
      · exact z1.2.1 s a1 q
      · have bb := (hn_small (x := z) (s := s) (f := 0) (fun s f a b => (z1.1 s f a b).1) z1.2.2.1 a1).1
        show hrow z VM2 s ≤ if s = k then hI_C VM1 NM0 LM0 LM4 LM5 s - 1 else hI_C VM1 NM0 LM0 LM4 LM5 s
        rw [if_neg (by omega)]
        unfold hI_C
        rw [if_neg q]
        omega)
    have hdst : ¬ y.2.2.1 k = 0 := by
      refine o3 k (by omega) (fun q => ?_)
      have := o2.1
      rw [q, hk_far] at this
      omega
    have q2 : hs (fun f => (if y.2.2.1 (12 + f) = 0 then (0 : Int) else 1) * (hcol z (VM1 + VM4) f - hI_w LM2 f)) VM2 = 0 := hs_zero (fun f hf => by
      show (if y.2.2.1 (12 + f) = 0 then (0 : Int) else 1) * (hcol z (VM1 + VM4) f - hI_w LM2 f) = 0
      rw [z2 f hf, Int.sub_self, Int.mul_zero])
    have q1 : hs (fun s => (if y.2.2.1 s = 0 then (0 : Int) else 1) * (hI_C VM1 NM0 LM0 LM4 LM5 s - (if s = k then hI_C VM1 NM0 LM0 LM4 LM5 s - 1 else hI_C VM1 NM0 LM0 LM4 LM5 s))) (VM1 + VM4) = 1 := by
      refine (hs_congr (fun s _ => ?_)).trans (hs_one (n := VM1 + VM4) (k := k) 1 hkn)
      show (if y.2.2.1 s = 0 then (0 : Int) else 1) * (hI_C VM1 NM0 LM0 LM4 LM5 s - (if s = k then hI_C VM1 NM0 LM0 LM4 LM5 s - 1 else hI_C VM1 NM0 LM0 LM4 LM5 s)) = if s = k then 1 else 0
      by_cases cf : s = k
      · rw [if_pos cf, if_pos cf, cf, if_neg hdst]
        omega
      · rw [if_neg cf, if_neg cf, Int.sub_self, Int.mul_zero]
    omega
  · rw [o2, if_pos (nI_pos' (show j < 2 ^ 31 by omega)), nI_clamp (show j < 2 ^ 31 by omega)]
    have he : hk_end (VM1 + VM4) VM2 LP0 LP1 LP2 LP3 k j t y.2.2.1 y.2.1 y.2.2.2 := ⟨o1, o3⟩
    have hrd := hk_raise hn12 b2 hS.1 he hst
    have dist := he.dist hn12 b2 hS.1 hst
    have hDr := hk_raised hn12 b2 hS.1 he hst hrd
    have st0 : (y.2.1 k).toInt = 0 := he.2.2.2.1.1
    generalize hL2 : (f_Plan_raiseWorths (VM1 + VM4) VM2 LP2 LP3 y.2.1 (y.2.1 j / 32)).1 = L2 at *
    generalize hL3 : (f_Plan_raiseWorths (VM1 + VM4) VM2 LP2 LP3 y.2.1 (y.2.1 j / 32)).2 = L3 at *
    have hSr : hk_S (VM1 + VM4) VM2 LP0 (hI_C VM1 NM0 LM0 LM4 LM5) (hI_w LM2) LP1 L2 L3 := ⟨hDr, hS.2.1, hS.2.2⟩
    have ctX := hD_cert hs0 hU hSr (by omega)
    -- a plan for one less
    have ex : ∃ X', (∀ s f, s < VM1 + VM4 → f < VM2 → 0 ≤ X' s f ∧ (¬ hz_svp VM1 NM0 NM1 NM2 IM0 s f → X' s f = 0)) ∧ (∀ s, s < VM1 + VM4 → s < VM1 → hrow X' VM2 s ≤ (fun s => if s = k then hI_C VM1 NM0 LM0 LM4 LM5 s - 1 else hI_C VM1 NM0 LM0 LM4 LM5 s) s) ∧ (∀ f, f < VM2 → hcol X' (VM1 + VM4) f = hI_w LM2 f) ∧ hq_cert (VM1 + VM4) VM2 VM1 (hz_svp VM1 NM0 NM1 NM2 IM0) (hI_u VM1 VM3 NM2 LM1 LM3 LM6 LM7 LM8 LM9 LM10 IM1 (-2)) X' (fun s => if s = k then hI_C VM1 NM0 LM0 LM4 LM5 s - 1 else hI_C VM1 NM0 LM0 LM4 LM5 s) (fun f => (L3 f).toInt) (fun s => (L2 s).toInt) := by
      by_cases cj : j = k
      · subst cj
        have tt := hS.2.1 j hkn
        unfold hk_tot at tt
        have idle := he.2.1
        refine ⟨hk_X LP1, fun s f a b => hR_sv hR hS a b, fun s a1 a2 => ?_, hS.2.2, ctX.1, ctX.2.1, fun s a1 => ⟨(ctX.2.2 s a1).1, fun hr => ?_⟩⟩
        · show hrow (hk_X LP1) VM2 s ≤ if s = j then hI_C VM1 NM0 LM0 LM4 LM5 s - 1 else hI_C VM1 NM0 LM0 LM4 LM5 s
          by_cases cs : s = j
          · rw [if_pos cs, cs]; omega
          · rw [if_neg cs]; exact hR_row hS a1
        · have q := (ctX.2.2 s a1).2 hr
          have cs : s ≠ j := by
            intro e
            subst e
            have z := (hDr.2.1 s a1).2.2.2 idle
            have hr' : 0 < (L2 s).toInt := hr
            omega
          refine ⟨q.1, ?_⟩
          show hrow (hk_X LP1) VM2 s = if s = j then hI_C VM1 NM0 LM0 LM4 LM5 s - 1 else hI_C VM1 NM0 LM0 LM4 LM5 s
          rw [if_neg cs]
          exact q.2
      · obtain ⟨x1, k0, c1, c2, c3, c4, c5⟩ := hk_chain2 hn12 b2 hS.1 hkn he hrd (hk_dep y.2.1 j + 1) j (Nat.lt_succ_self _) o1 cj he.2.2.2.2.2.1 (Int.le_refl _)
        have hok := he.2.2.2.1.2.1 j (by omega) he.2.2.2.2.2.1
        unfold hk_ok at hok
        have hk11 : k0 < 12 := by
          have := he.2.2.1
          unfold hk_dep at c2
          omega
        obtain ⟨m1, m2, m3, m4, m5⟩ := hk_bring hn12 b2 (fun s _ => by have := hR_capb hs0 s; omega) hZ.1 c1 hSr c5 hk11 he.2.1 (need := 1) (by rw [one]; omega)
        rw [one] at m2
        have em : (f_Plan_bring LP1 y.2.2.2 x1 j 1).1.toInt = 1 := by omega
        rw [em] at m3
        generalize (f_Plan_bring LP1 y.2.2.2 x1 j 1).2 = L' at *
        have dk : hk_dep y.2.1 k = 0 := by
          unfold hk_dep
          rw [st0]
          rfl
        have rk := m5 k x1 hkn (by omega) dk
        have sm : hs (fun f => hI_w LM2 f + (if f = x1 then 1 else 0)) VM2 ≤ 100000000 := by
          have e : hs (fun f => hI_w LM2 f + (if f = x1 then 1 else 0)) VM2 = hs (hI_w LM2) VM2 + hs (fun f => if f = x1 then (1 : Int) else 0) VM2 := hs_add _ _ _
          rw [e, hs_one 1 c1]
          omega
        have ct1 := hD_cert hs0 hU m3 sm
        have cell : ∀ s f, hk_add (hk_X L') k x1 (-1) s f = if s = k ∧ f = x1 then hk_X L' s f + -1 else hk_X L' s f := fun s f => rfl
        refine ⟨hk_add (hk_X L') k x1 (-1), fun s f a b => ?_, fun s a1 a2 => ?_, fun f hf => ?_, ct1.1, fun s f a b => ?_, fun s a1 => ⟨(ct1.2.2 s a1).1, fun hr => ?_⟩⟩
        · have q := hR_sv hR m3 a b
          rw [cell]
          by_cases cc : s = k ∧ f = x1
          · rw [if_pos cc, cc.1, cc.2, rk]
            exact ⟨by omega, fun z => by
              have := (hR_sv hR hS hkn c1).2 z
              omega⟩
          · rw [if_neg cc]; exact q
        · have q := hR_row m3 a1
          rw [hk_add_row]
          show _ ≤ if s = k then hI_C VM1 NM0 LM0 LM4 LM5 s - 1 else hI_C VM1 NM0 LM0 LM4 LM5 s
          by_cases cs : s = k
          · rw [if_pos ⟨cs, c1⟩, if_pos cs]; omega
          · rw [if_neg (fun z => cs z.1), if_neg cs]; omega
        · have q : hcol (hk_X L') (VM1 + VM4) f = hI_w LM2 f + (if f = x1 then 1 else 0) := m3.2.2 f hf
          rw [hk_add_col, q]
          by_cases cf : f = x1
          · rw [if_pos cf, if_pos ⟨cf, hkn⟩]; omega
          · rw [if_neg cf, if_neg (fun z => cf z.1)]; omega
        · have q := ct1.2.1 s f a b
          rw [cell]
          by_cases cc : s = k ∧ f = x1
          · rw [if_pos cc, cc.1, cc.2, rk]
            refine ⟨by omega, fun z => ?_⟩
            have q' := (ct1.2.1 k x1 hkn c1).2 (by rw [rk]; omega)
            exact q'
          · rw [if_neg cc]; exact q
        · have q := (ct1.2.2 s a1).2 hr
          refine ⟨q.1, ?_⟩
          rw [hk_add_row]
          show _ = if s = k then hI_C VM1 NM0 LM0 LM4 LM5 s - 1 else hI_C VM1 NM0 LM0 LM4 LM5 s
          by_cases cs : s = k
          · rw [if_pos ⟨cs, c1⟩, if_pos cs, q.2]; omega
          · rw [if_neg (fun z => cs z.1), if_neg cs, q.2]; omega
    obtain ⟨X', x1', x2', x3', ctX'⟩ := ex
    have xP : hPP (VM1 + VM4) VM2 VM1 (hz_svp VM1 NM0 NM1 NM2 IM0) (fun s => if s = k then hI_C VM1 NM0 LM0 LM4 LM5 s - 1 else hI_C VM1 NM0 LM0 LM4 LM5 s) (hI_w LM2) NM2 (fun w => (LS8 w).toInt) X' := by
      refine ⟨x1', x2', fun f hf => by rw [x3' f hf]; exact Int.le_refl _, fun w hw => ?_⟩
      rw [hR_wkfull x3' w]
      exact hwks w hw
    have yes := hD_yes hs0 h xP x3' ctX' (by omega)
    have l1 := ctX.le (cy := fun s => if s = k then hI_C VM1 NM0 LM0 LM4 LM5 s - 1 else hI_C VM1 NM0 LM0 LM4 LM5 s) x1' x2'
    have l2 := ctX'.le (cy := hI_C VM1 NM0 LM0 LM4 LM5) (y := hk_X LP1) (fun s f a b => hR_sv hR hS a b) (fun s a _ => hR_row hS a)
    have zf1 : hs (fun f => (L3 f).toInt * (hcol X' (VM1 + VM4) f - hcol (hk_X LP1) (VM1 + VM4) f)) VM2 = 0 := hs_zero (fun f hf => by show (L3 f).toInt * (hcol X' (VM1 + VM4) f - hcol (hk_X LP1) (VM1 + VM4) f) = 0; rw [x3' f hf, hS.2.2 f hf, Int.sub_self, Int.mul_zero])
    have zf2 : hs (fun f => (L3 f).toInt * (hcol (hk_X LP1) (VM1 + VM4) f - hcol X' (VM1 + VM4) f)) VM2 = 0 := hs_zero (fun f hf => by show (L3 f).toInt * (hcol (hk_X LP1) (VM1 + VM4) f - hcol X' (VM1 + VM4) f) = 0; rw [x3' f hf, hS.2.2 f hf, Int.sub_self, Int.mul_zero])
    have zs1 : hs (fun s => (L2 s).toInt * (hI_C VM1 NM0 LM0 LM4 LM5 s - (if s = k then hI_C VM1 NM0 LM0 LM4 LM5 s - 1 else hI_C VM1 NM0 LM0 LM4 LM5 s))) (VM1 + VM4) = (L2 k).toInt := by
      refine (hs_congr (fun s _ => ?_)).trans (hs_one (n := VM1 + VM4) (k := k) _ hkn)
      show (L2 s).toInt * (hI_C VM1 NM0 LM0 LM4 LM5 s - (if s = k then hI_C VM1 NM0 LM0 LM4 LM5 s - 1 else hI_C VM1 NM0 LM0 LM4 LM5 s)) = if s = k then (L2 k).toInt else 0
      by_cases cs : s = k
      · rw [if_pos cs, if_pos cs, cs, show hI_C VM1 NM0 LM0 LM4 LM5 k - (hI_C VM1 NM0 LM0 LM4 LM5 k - 1) = 1 by omega, Int.mul_one]
      · rw [if_neg cs, if_neg cs, Int.sub_self, Int.mul_zero]
    have zs2 : hs (fun s => (L2 s).toInt * ((if s = k then hI_C VM1 NM0 LM0 LM4 LM5 s - 1 else hI_C VM1 NM0 LM0 LM4 LM5 s) - hI_C VM1 NM0 LM0 LM4 LM5 s)) (VM1 + VM4) = - (L2 k).toInt := by
      refine (hs_congr (fun s _ => ?_)).trans (hs_one (n := VM1 + VM4) (k := k) _ hkn)
      show (L2 s).toInt * ((if s = k then hI_C VM1 NM0 LM0 LM4 LM5 s - 1 else hI_C VM1 NM0 LM0 LM4 LM5 s) - hI_C VM1 NM0 LM0 LM4 LM5 s) = if s = k then - (L2 k).toInt else 0
      by_cases cs : s = k
      · rw [if_pos cs, if_pos cs, cs, show hI_C VM1 NM0 LM0 LM4 LM5 k - 1 - hI_C VM1 NM0 LM0 LM4 LM5 k = -1 by omega, Int.mul_neg, Int.mul_one]
      · rw [if_neg cs, if_neg cs, Int.sub_self, Int.mul_zero]
    have up := hrd.1 k hkn
    have upk : hk_up ((y.2.1 j).toInt / 32) y.2.1 k = (y.2.1 j).toInt / 32 := by
      unfold hk_up
      rw [st0]
      by_cases cD : (0 : Int) / 32 < (y.2.1 j).toInt / 32
      · rw [if_pos cD]; omega
      · rw [if_neg cD]; omega
    have kr := hS.1.2.1 k hkn
    have pst : hk_p LP2 LP3 k = (LP2 k).toInt := by
      unfold hk_p
      rw [if_pos (by omega)]
    have ej : (y.2.1 j / 32).toInt = (y.2.1 j).toInt / 32 := by rw [h64_div (dist.2.2.1 j (by omega)) (by rw [hk_32]; omega), hk_32]
    have ea : (LP2 k + y.2.1 j / 32).toInt = (LP2 k).toInt + (y.2.1 j).toInt / 32 := by rw [h64_add (by omega) (by omega), ej]
    refine Or.inr ⟨?_, yes.1, ?_⟩
    · show 0 ≤ (LP2 k + y.2.1 j / 32).toInt
      omega
    · show (LP2 k + y.2.1 j / 32).toInt = _
      rw [yes.2]
      omega
end HLESS
theorem hi_closure_is : hi_closure hi_Inv := by
  intro VH0 VS0 VS1 VS2 NS0 NS1 NS2 LS0 LS1 LS2 LS3 LS4 LS5 LS6 LS7 LS8 IS0 VY0 LY0 LY1 LY2 IY0 VP0 VP1 VP2 NP0 LP0 LP1 LP2 LP3 LP4 IP0 IP1 VQ0 VQ1 VQ2 NQ0 LQ0 LQ1 LQ2 LQ3 LQ4 IQ0 IQ1 VT0 NT0 NT1 LT0 IT0 VM0 VM1 VM2 VM3 VM4 VM5 WM0 NM0 NM1 NM2 LM0 LM1 LM2 LM3 LM4 LM5 LM6 LM7 LM8 LM9 LM10 LM11 LM12 LM13 LM14 LM15 IM0 IM1 IM2 IM3 x1 x2 h
  obtain ⟨hs0, ⟨q1, q2, q3⟩, hst, hH2, hpl, hcl⟩ := id h
  obtain ⟨e1, e2, e3, e4, e5, e6, e7, e8, e9, e10, e11, e12, e13, e14, e15, e16⟩ := hs0.1
  subst e1 e2 e3 e4 e5 e6 e7 e8 e9 e10 e11 e12 e13 e14 e15 e16
  obtain ⟨-, ⟨b1, b2, b3, b4, b5, b6, b7⟩, h6, h8, hbits, hbars, hv⟩ := id hs0
  subst hst
  have one : (1 : Int64).toInt = 1 := by decide
  have z64 : (0 : Int64).toInt = 0 := by decide
  have m5 : (100000 : Int64).toInt = 100000 := by decide
  have n2 : (2 : Int64).toInt = 2 := by decide
  have n3 : (3 : Int64).toInt = 3 := by decide
  unfold f_HaulFlows_closure f_Model_closure
  simp only [hh_bind]
  by_cases cs : VH0 = 1
  case neg =>
    rw [if_neg cs, if_neg cs]
    exact ⟨by first | trivial | rfl, h⟩
  rw [if_pos cs, if_pos cs]
  obtain ⟨g1, g2, g3, g4, g5, g6, g7, g8, g9⟩ := hpl cs
  have c0 : (f_HaulFlows_isBelow x1 (nI VY0) = nI 1 ∧ (0 ≤ x1.toInt ∧ x1.toInt < VY0)) ∨ (f_HaulFlows_isBelow x1 (nI VY0) = nI 0 ∧ ¬ (0 ≤ x1.toInt ∧ x1.toInt < VY0)) := hy_below x1 (show VY0 < 2 ^ 31 by omega)
  have m0 : (f_Model_isIn x1.toInt64 0 ((nI VY0).toInt64 - 1) = nI 1 ∧ (0 ≤ x1.toInt ∧ x1.toInt < VY0)) ∨ (f_Model_isIn x1.toInt64 0 ((nI VY0).toInt64 - 1) = nI 0 ∧ ¬ (0 ≤ x1.toInt ∧ x1.toInt < VY0)) := by have k := hy_in x1.toInt64 0 ((nI VY0).toInt64 - 1); rw [z64, hy_n64 (by omega), hy_64] at k; rcases k with ⟨k1, k2⟩ | ⟨k1, k2⟩; exact Or.inl ⟨k1, by omega⟩; exact Or.inr ⟨k1, by omega⟩
  rcases c0 with ⟨cy0, p0⟩ | ⟨cy0, p0⟩
  case inr =>
    have my : f_Model_isIn x1.toInt64 0 ((nI VY0).toInt64 - 1) = nI 0 := by rcases m0 with ⟨a, b⟩ | ⟨a, b⟩; exact absurd b p0; exact a
    simp only [cy0, my, show (nI 0 = 0) = True from eq_true (by decide), if_true]
    exact ⟨by first | trivial | rfl, h⟩
  have my0 : f_Model_isIn x1.toInt64 0 ((nI VY0).toInt64 - 1) = nI 1 := by rcases m0 with ⟨a, b⟩ | ⟨a, b⟩; exact a; exact absurd p0 b
  simp only [cy0, my0, show (nI 1 = 0) = False from eq_false (by decide), if_false]
  have c1 : (f_HaulFlows_isBelow x2 (nI 2) = nI 1 ∧ (0 ≤ x2.toInt ∧ x2.toInt < 2)) ∨ (f_HaulFlows_isBelow x2 (nI 2) = nI 0 ∧ ¬ (0 ≤ x2.toInt ∧ x2.toInt < 2)) := hy_below x2 (show 2 < 2 ^ 31 by omega)
  have m1 : (f_Model_isIn x2.toInt64 0 1 = nI 1 ∧ (0 ≤ x2.toInt ∧ x2.toInt < 2)) ∨ (f_Model_isIn x2.toInt64 0 1 = nI 0 ∧ ¬ (0 ≤ x2.toInt ∧ x2.toInt < 2)) := by have k := hy_in x2.toInt64 0 1; rw [z64, one, hy_64] at k; rcases k with ⟨k1, k2⟩ | ⟨k1, k2⟩; exact Or.inl ⟨k1, by omega⟩; exact Or.inr ⟨k1, by omega⟩
  rcases c1 with ⟨cy1, p1⟩ | ⟨cy1, p1⟩
  case inr =>
    have my : f_Model_isIn x2.toInt64 0 1 = nI 0 := by rcases m1 with ⟨a, b⟩ | ⟨a, b⟩; exact absurd b p1; exact a
    simp only [cy1, my, show (nI 0 = 0) = True from eq_true (by decide), if_true]
    exact ⟨by first | trivial | rfl, h⟩
  have my1 : f_Model_isIn x2.toInt64 0 1 = nI 1 := by rcases m1 with ⟨a, b⟩ | ⟨a, b⟩; exact a; exact absurd p1 b
  simp only [cy1, my1, show (nI 1 = 0) = False from eq_false (by decide), if_false]
  have ws := hR_wsum hs0
  have hw := hw_wanted (VM2 := VS2) (LM2 := LS4) b2 hv.2.2.1
  obtain ⟨y, y0, y1, y2, y3, y4⟩ := hR_make hs0 (x6 := x1) (x5 := x1) (fun w hw => Iff.rfl) LQ0 LQ1 LQ2 LQ3 LQ4 IQ0 IQ1
  rw [y0]
  have base := hR_base hs0 LM13 LM14 LM15 IM3 x1
  have hR := hI_U.R hs0 y3
  rcases y4 with ⟨m1, m2, m3⟩ | ⟨m1, m2⟩
  · rw [m1, if_neg (show ¬ nI 1 = 0 by decide)]
    refine ⟨?_, h⟩
    have ct := hD_cert hs0 y3 m2 (by omega)
    have xP : hPP (VS0 + VS1) VS2 VS0 (hz_svp VS0 NS0 NS1 NS2 IM0) (hI_C VS0 NS0 LS0 LM4 LM5) (hI_w LS4) NS2 (fun w => (LS8 w).toInt) (hk_X y.2.2.2.2.1) := by
      refine ⟨fun s f a b => hR_sv hR m2 a b, fun s a _ => hR_row m2 a, fun f hf => by rw [m2.2.2 f hf]; exact Int.le_refl _, fun w hw => ?_⟩
      rw [hR_wkfull m2.2.2 w]
      exact g6 w hw
    have yes := hD_yes hs0 base xP m2.2.2 ct (by omega)
    have tp : (f_Plan_totalPrice y.2.1 y.2.2.1 y.2.2.2.1 y.2.2.2.2.1).toInt = hcost (hI_u VS0 VY0 NS2 LS1 LS5 LY0 LY1 LY2 LS2 LS3 IM1 x1) (hk_X y.2.2.2.2.1) (VS0 + VS1) VS2 := by
      rw [y1, y2]
      exact hO_price (by omega) b2 hR m2 (by omega)
    have pp : (f_Plan_totalPrice VP0 VP1 LP0 LP1).toInt = hcost (hI_u VS0 VY0 NS2 LS1 LS5 LY0 LY1 LY2 LS2 LS3 IM1 (-2)) (hk_X LP1) (VS0 + VS1) VS2 := by
      rw [g1, g2]
      exact hO_price (by omega) b2 (hI_U.R hs0 g3) g4 (by omega)
    have e1 : f_Plan_totalPrice y.2.1 y.2.2.1 y.2.2.2.1 y.2.2.2.2.1 = f_Model_total VS0 VS2 VS1 NS0 NS1 NS2 (f_Model_sendAll (f_Model_lay VS0 VS2 VY0 VS1 NS0 NS1 NS2 LS0 LS1 LS4 LS5 LM4 LM5 LY0 LY1 LY2 LS2 LS3 LM11 LM13 LM14 IM0 IM1 (-2) (-2) 0 x1).1 (f_Model_lay VS0 VS2 VY0 VS1 NS0 NS1 NS2 LS0 LS1 LS4 LS5 LM4 LM5 LY0 LY1 LY2 LS2 LS3 LM11 LM13 LM14 IM0 IM1 (-2) (-2) 0 x1).2 LM15 IM3).2.1 (f_Model_lay VS0 VS2 VY0 VS1 NS0 NS1 NS2 LS0 LS1 LS4 LS5 LM4 LM5 LY0 LY1 LY2 LS2 LS3 LM11 LM13 LM14 IM0 IM1 (-2) (-2) 0 x1).2 IM0 := Int64.toInt_inj.mp (by rw [tp, yes.2])
    have e2 : f_Plan_totalPrice VP0 VP1 LP0 LP1 = WM0 := Int64.toInt_inj.mp (by rw [pp, g9])
    -- it doesn't get cheaper
    have ct0 := hD_cert hs0 g3 g4 (by omega)
    have k1 := ct0.best (y := hk_X y.2.2.2.2.1) xP.1 xP.2.1 (fun f hf => by rw [m2.2.2 f hf, g4.2.2 f hf])
    have k2 : hcost (hI_u VS0 VY0 NS2 LS1 LS5 LY0 LY1 LY2 LS2 LS3 IM1 (-2)) (hk_X y.2.2.2.2.1) (VS0 + VS1) VS2 ≤ hcost (hI_u VS0 VY0 NS2 LS1 LS5 LY0 LY1 LY2 LS2 LS3 IM1 x1) (hk_X y.2.2.2.2.1) (VS0 + VS1) VS2 := hs_le (fun s hs1 => hs_le (fun f hf => Int.mul_le_mul_of_nonneg_right (hD_mono hs0 x1 s f) (xP.1 s f hs1 hf).1))
    have nb := hw_rows (k := VS0 + VS1) (u := hI_u VS0 VY0 NS2 LS1 LS5 LY0 LY1 LY2 LS2 LS3 IM1 x1) (x := hk_X y.2.2.2.2.1) (show VS0 + VS1 ≤ 12 by omega) b2 (fun s f a b => (hO_num m2 (by omega) s f a b).2) (fun s f a b => Or.inl (by have := hv_unit (VM1 := VS0) (VM3 := VY0) (NM2 := NS2) (IM1 := IM1) hv s f x1; unfold hI_u; omega)) (Nat.le_refl _)
    have nb0 := hw_rows (k := VS0 + VS1) (u := hI_u VS0 VY0 NS2 LS1 LS5 LY0 LY1 LY2 LS2 LS3 IM1 (-2)) (x := hk_X LP1) (show VS0 + VS1 ≤ 12 by omega) b2 (fun s f a b => (hO_num g4 (by omega) s f a b).2) (fun s f a b => Or.inl (by have := hv_unit (VM1 := VS0) (VM3 := VY0) (NM2 := NS2) (IM1 := IM1) hv s f (-2); unfold hI_u; omega)) (Nat.le_refl _)
    have nb' : 0 ≤ hcost (hI_u VS0 VY0 NS2 LS1 LS5 LY0 LY1 LY2 LS2 LS3 IM1 x1) (hk_X y.2.2.2.2.1) (VS0 + VS1) VS2 ∧ hcost (hI_u VS0 VY0 NS2 LS1 LS5 LY0 LY1 LY2 LS2 LS3 IM1 x1) (hk_X y.2.2.2.2.1) (VS0 + VS1) VS2 ≤ 14400000000000000 := nb
    have nb0' : 0 ≤ hcost (hI_u VS0 VY0 NS2 LS1 LS5 LY0 LY1 LY2 LS2 LS3 IM1 (-2)) (hk_X LP1) (VS0 + VS1) VS2 ∧ hcost (hI_u VS0 VY0 NS2 LS1 LS5 LY0 LY1 LY2 LS2 LS3 IM1 (-2)) (hk_X LP1) (VS0 + VS1) VS2 ≤ 14400000000000000 := nb0
    refine hD_ans (Or.inr ⟨fun q => ?_, Int64.toInt_inj.mp (by rw [yes.1, hw]), by rw [e1, e2]⟩)
    have q' := congrArg Int64.toInt q
    rw [h64_sub (by omega) (by omega), tp, pp, hk_m1] at q'
    omega
  · rw [m1, if_pos (show nI 0 = 0 by decide)]
    refine ⟨?_, h⟩
    have no := hD_no hs0 base (by omega) (fun z z1 z2 => m2 z z1.1 z1.2.1 z2)
    exact hD_ans (Or.inl ⟨rfl, fun q => no (by rw [q, hw])⟩)
theorem hi_dual_is : hi_dual hi_Inv := by
  intro VH0 VS0 VS1 VS2 NS0 NS1 NS2 LS0 LS1 LS2 LS3 LS4 LS5 LS6 LS7 LS8 IS0 VY0 LY0 LY1 LY2 IY0 VP0 VP1 VP2 NP0 LP0 LP1 LP2 LP3 LP4 IP0 IP1 VQ0 VQ1 VQ2 NQ0 LQ0 LQ1 LQ2 LQ3 LQ4 IQ0 IQ1 VT0 NT0 NT1 LT0 IT0 VM0 VM1 VM2 VM3 VM4 VM5 WM0 NM0 NM1 NM2 LM0 LM1 LM2 LM3 LM4 LM5 LM6 LM7 LM8 LM9 LM10 LM11 LM12 LM13 LM14 LM15 IM0 IM1 IM2 IM3 x1 x2 x3 h
  obtain ⟨hs0, ⟨q1, q2, q3⟩, hst, hH2, hpl, hcl⟩ := id h
  obtain ⟨e1, e2, e3, e4, e5, e6, e7, e8, e9, e10, e11, e12, e13, e14, e15, e16⟩ := hs0.1
  subst e1 e2 e3 e4 e5 e6 e7 e8 e9 e10 e11 e12 e13 e14 e15 e16
  obtain ⟨-, ⟨b1, b2, b3, b4, b5, b6, b7⟩, h6, h8, hbits, hbars, hv⟩ := id hs0
  subst hst
  have one : (1 : Int64).toInt = 1 := by decide
  have z64 : (0 : Int64).toInt = 0 := by decide
  have m5 : (100000 : Int64).toInt = 100000 := by decide
  have n2 : (2 : Int64).toInt = 2 := by decide
  have n3 : (3 : Int64).toInt = 3 := by decide
  unfold f_HaulFlows_dual f_Model_dual
  by_cases cs : VH0 = 1
  case neg =>
    rw [if_neg cs, if_neg cs]
    exact ⟨by first | trivial | rfl, h⟩
  rw [if_pos cs, if_pos cs]
  obtain ⟨g1, g2, g3, g4, g5, g6, g7, g8, g9⟩ := hpl cs
  have ws := hR_wsum hs0
  have hw := hw_wanted (VM2 := VS2) (LM2 := LS4) b2 hv.2.2.1
  simp only [hh_bind]
  rw [g1, g2]
  have hinv : ∀ a b c a' b' c' d', hi_Inv VH0 VS0 VS1 VS2 NS0 NS1 NS2 LS0 LS1 LS2 LS3 LS4 LS5 LS6 LS7 LS8 IS0 VY0 LY0 LY1 LY2 IY0 (VS0 + VS1) VS2 VP2 NP0 LP0 LP1 LP2 LP3 a b c VQ0 VQ1 VQ2 NQ0 LQ0 LQ1 LQ2 LQ3 LQ4 IQ0 IQ1 VT0 NT0 NT1 LT0 IT0 0 VS0 VS2 VY0 VS1 VH0 WM0 NS0 NS1 NS2 LS0 LS1 LS4 LS5 LM4 LM5 LY0 LY1 LY2 LS2 LS3 LM11 LM12 a' b' c' IM0 IM1 IM2 d' := by
    intro a b c a' b' c' d'
    rw [g1, g2] at h
    exact h
  have z32 : (0 : Int32).toInt = 0 := by decide
  have o32 : (nI 1).toInt = 1 := by decide
  have f01 : ¬ (0 : Int32) = nI 1 := by decide
  have f10 : ¬ nI 1 = (0 : Int32) := by decide
  have mm3 : (f_Model_isIn x3.toInt64 0 1 = nI 1 ∧ (0 ≤ x3.toInt ∧ x3.toInt < 2)) ∨ (f_Model_isIn x3.toInt64 0 1 = nI 0 ∧ ¬ (0 ≤ x3.toInt ∧ x3.toInt < 2)) := by
    have k := hy_in x3.toInt64 0 1
    rw [z64, one, hy_64] at k
    rcases k with ⟨k1, k2⟩ | ⟨k1, k2⟩
    · exact Or.inl ⟨k1, by omega⟩
    · exact Or.inr ⟨k1, by omega⟩
  have cc3 := hy_below x3 (show 2 < 2 ^ 31 by omega)
  have cc1 := hy_below x1 (show 2 < 2 ^ 31 by omega)
  by_cases hx0 : x1 = 0
  · -- a cut
    subst hx0
    have cy1 : f_HaulFlows_isBelow 0 (nI 2) = nI 1 := by decide
    rw [cy1, if_neg (show ¬ nI 1 = 0 by decide)]
    rcases cc3 with ⟨cy3, p3⟩ | ⟨cy3, p3⟩
    case inr =>
      have my : f_Model_isIn x3.toInt64 0 1 = nI 0 := by
        rcases mm3 with ⟨a, b⟩ | ⟨a, b⟩
        · exact absurd b p3
        · exact a
      rw [cy3, my, if_pos (show nI 0 = 0 by decide), if_pos (show nI 0 = 0 by decide)]
      exact ⟨rfl, hinv _ _ _ _ _ _ _⟩
    have my3 : f_Model_isIn x3.toInt64 0 1 = nI 1 := by
      rcases mm3 with ⟨a, b⟩ | ⟨a, b⟩
      · exact a
      · exact absurd p3 b
    rw [cy3, my3, if_neg (show ¬ nI 1 = 0 by decide), if_neg (show ¬ nI 1 = 0 by decide), if_pos rfl, if_pos rfl]
    have mm2 : (f_Model_isIn x2.toInt64 0 ((nI VS0).toInt64 - 1) = nI 1 ∧ (0 ≤ x2.toInt ∧ x2.toInt < VS0)) ∨ (f_Model_isIn x2.toInt64 0 ((nI VS0).toInt64 - 1) = nI 0 ∧ ¬ (0 ≤ x2.toInt ∧ x2.toInt < VS0)) := by
      have k := hy_in x2.toInt64 0 ((nI VS0).toInt64 - 1)
      rw [z64, hy_n64 (by omega), hy_64] at k
      rcases k with ⟨k1, k2⟩ | ⟨k1, k2⟩
      · exact Or.inl ⟨k1, by omega⟩
      · exact Or.inr ⟨k1, by omega⟩
    rcases hy_below x2 (show VS0 < 2 ^ 31 by omega) with ⟨cy2, p2⟩ | ⟨cy2, p2⟩
    case inr =>
      have my : f_Model_isIn x2.toInt64 0 ((nI VS0).toInt64 - 1) = nI 0 := by
        rcases mm2 with ⟨a, b⟩ | ⟨a, b⟩
        · exact absurd b p2
        · exact a
      rw [cy2, my, if_pos (show nI 0 = 0 by decide), if_pos (show nI 0 = 0 by decide), if_neg f01]
      exact ⟨rfl, hinv _ _ _ _ _ _ _⟩
    have my2 : f_Model_isIn x2.toInt64 0 ((nI VS0).toInt64 - 1) = nI 1 := by
      rcases mm2 with ⟨a, b⟩ | ⟨a, b⟩
      · exact a
      · exact absurd p2 b
    have k2 := hy_clamp p2.1
    rw [cy2, my2, if_neg (show ¬ nI 1 = 0 by decide), if_neg (show ¬ nI 1 = 0 by decide), if_neg f01, if_neg (show ¬ 1 = 0 by decide), if_pos rfl, hy_gives hv h6 b5]
    by_cases cg : f_Model_gives NS0 LS0 LM4 LM5 x2.toNatClampNeg = 0
    · rw [if_pos cg, if_pos cg]
      exact ⟨rfl, hinv _ _ _ _ _ _ _⟩
    rw [if_neg cg, if_neg cg, if_pos rfl, if_neg f01]
    refine ⟨?_, hinv _ _ _ _ _ _ _⟩
    have sent := hM_send (VM1 := VS0) (VM2 := VS2) (VM3 := VY0) (VM4 := VS1) (NM0 := NS0) (NM1 := NS1) (NM2 := NS2) (LM0 := LS0) (LM1 := LS1) (LM2 := LS4) (LM3 := LS5) (LM4 := LM4) (LM5 := LM5) (LM6 := LY0) (LM7 := LY1) (LM8 := LY2) (LM9 := LS2) (LM10 := LS3) (LM11 := LM11) (IM0 := IM0) (IM1 := IM1) (nI x2.toNatClampNeg) (-2) 1 (-2) LM13 LM14 LM15 IM3 hv b5 b7 b2 (by omega) (by decide) (fun s hs1 e => by
      have e' : s = x2.toNatClampNeg := by
        have := congrArg Int32.toNatClampNeg e
        rw [nI_clamp (by omega), nI_clamp (by omega)] at this
        exact this
      rw [e']
      exact cg)
    generalize f_Model_lay VS0 VS2 VY0 VS1 NS0 NS1 NS2 LS0 LS1 LS4 LS5 LM4 LM5 LY0 LY1 LY2 LS2 LS3 LM11 LM13 LM14 IM0 IM1 (nI x2.toNatClampNeg) (-2) 1 (-2) = LL at sent ⊢
    obtain ⟨s1, s2, s3, s4, s5, s6⟩ := sent
    have s4' := hn_is_congr (sv' := hz_svp VS0 NS0 NS1 NS2 IM0) (cap' := fun s => if s = x2.toNatClampNeg then hI_C VS0 NS0 LS0 LM4 LM5 s - 1 else hI_C VS0 NS0 LS0 LM4 LM5 s) (want' := hI_w LS4) (most' := fun w => (LM11 w).toInt) (fun s hs1 hc => by
      have g := hv_gives (NM0 := NS0) hv b5 s
      show (hl_cap VS0 NS0 LS0 LM4 LM5 (nI x2.toNatClampNeg) s).toInt = if s = x2.toNatClampNeg then hI_C VS0 NS0 LS0 LM4 LM5 s - 1 else hI_C VS0 NS0 LS0 LM4 LM5 s
      unfold hl_cap hI_C
      rw [if_pos hc, if_pos hc]
      by_cases e : s = x2.toNatClampNeg
      · rw [if_pos (by rw [e]), if_pos e, h64_sub (by rw [one]; omega) (by rw [one]; omega), one]
      · rw [if_neg (fun z => e (by have := congrArg Int32.toNatClampNeg z; rw [nI_clamp (by omega), nI_clamp (by omega)] at this; exact this)), if_neg e, h64_sub (by rw [h64_0]; omega) (by rw [h64_0]; omega), h64_0]
        omega) (fun f hf => by
      have g := hv.2.2.1 f
      show (hl_wt LS4 (-2) 1 f).toInt = (LS4 f).toInt
      unfold hl_wt
      rw [if_neg (hv_m2 (by omega)), h64_add (by rw [h64_0]; omega) (by rw [h64_0]; omega), h64_0]
      omega) (fun _ _ => rfl) (fun _ _ _ _ => Iff.rfl) s4
    have res := hD_less hs0 g3 g4 g5 g6 (k := x2.toNatClampNeg) (by omega) LP4 IP0 IP1 ⟨s1, s2, s3, s4', s5, s6⟩
    have due : (f_Model_wanted VS2 LS4 + (0 : Int32).toInt64).toInt = hs (hI_w LS4) VS2 := by
      have e : ((0 : Int32).toInt64).toInt = 0 := by decide
      rw [h64_add (by omega) (by omega), e, hw]
      omega
    show f_HaulFlows_partOfChange (f_Plan_priceOfOneLess (VS0 + VS1) VS2 LP0 LP1 LP2 LP3 LP4 IP0 IP1 x2.toNatClampNeg).1 x3 = (f_Model_differs VS0 VS2 VS1 WM0 NS0 NS1 NS2 LL.1 LL.2 LM15 IM0 IM3 (f_Model_wanted VS2 LS4 + (0 : Int32).toInt64) x3).1
    rcases res with ⟨r1, r2⟩ | ⟨r1, r2, r3⟩
    · exact hD_ans (Or.inl ⟨r1, fun q => r2 (by rw [q, due])⟩)
    · refine hD_ans (Or.inr ⟨fun q => by rw [q, hk_m1] at r1; omega, Int64.toInt_inj.mp (by rw [r2, due]), Int64.toInt_inj.mp ?_⟩)
      have nb0 := hw_rows (k := VS0 + VS1) (u := hI_u VS0 VY0 NS2 LS1 LS5 LY0 LY1 LY2 LS2 LS3 IM1 (-2)) (x := hk_X LP1) (show VS0 + VS1 ≤ 12 by omega) b2 (fun s f a b => (hO_num g4 (by omega) s f a b).2) (fun s f a b => Or.inl (by have := hv_unit (VM1 := VS0) (VM3 := VY0) (NM2 := NS2) (IM1 := IM1) hv s f (-2); unfold hI_u; omega)) (Nat.le_refl _)
      have nb0' : 0 ≤ hcost (hI_u VS0 VY0 NS2 LS1 LS5 LY0 LY1 LY2 LS2 LS3 IM1 (-2)) (hk_X LP1) (VS0 + VS1) VS2 ∧ hcost (hI_u VS0 VY0 NS2 LS1 LS5 LY0 LY1 LY2 LS2 LS3 IM1 (-2)) (hk_X LP1) (VS0 + VS1) VS2 ≤ 14400000000000000 := nb0
      have tb := Int64.toInt_lt (f_Model_total VS0 VS2 VS1 NS0 NS1 NS2 (f_Model_sendAll LL.1 LL.2 LM15 IM3).2.1 LL.2 IM0)
      have pb := Int64.toInt_lt (f_Plan_priceOfOneLess (VS0 + VS1) VS2 LP0 LP1 LP2 LP3 LP4 IP0 IP1 x2.toNatClampNeg).1
      rw [Int64.toInt_sub, g9, Int.bmod_eq_of_le (by omega) (by omega)]
      exact r3
  · by_cases hx1 : x1 = nI 1
    · -- a fill
      subst hx1
      have cy1 : f_HaulFlows_isBelow (nI 1) (nI 2) = nI 1 := by decide
      rw [cy1, if_neg (show ¬ nI 1 = 0 by decide)]
      rcases cc3 with ⟨cy3, p3⟩ | ⟨cy3, p3⟩
      case inr =>
        have my : f_Model_isIn x3.toInt64 0 1 = nI 0 := by
          rcases mm3 with ⟨a, b⟩ | ⟨a, b⟩
          · exact absurd b p3
          · exact a
        rw [cy3, my, if_pos (show nI 0 = 0 by decide), if_pos (show nI 0 = 0 by decide)]
        exact ⟨rfl, hinv _ _ _ _ _ _ _⟩
      have my3 : f_Model_isIn x3.toInt64 0 1 = nI 1 := by
        rcases mm3 with ⟨a, b⟩ | ⟨a, b⟩
        · exact a
        · exact absurd p3 b
      rw [cy3, my3, if_neg (show ¬ nI 1 = 0 by decide), if_neg (show ¬ nI 1 = 0 by decide), if_neg f10, if_neg f10, if_pos rfl]
      have mm2 : (f_Model_isIn x2.toInt64 0 ((nI VS2).toInt64 - 1) = nI 1 ∧ (0 ≤ x2.toInt ∧ x2.toInt < VS2)) ∨ (f_Model_isIn x2.toInt64 0 ((nI VS2).toInt64 - 1) = nI 0 ∧ ¬ (0 ≤ x2.toInt ∧ x2.toInt < VS2)) := by
        have k := hy_in x2.toInt64 0 ((nI VS2).toInt64 - 1)
        rw [z64, hy_n64 (by omega), hy_64] at k
        rcases k with ⟨k1, k2⟩ | ⟨k1, k2⟩
        · exact Or.inl ⟨k1, by omega⟩
        · exact Or.inr ⟨k1, by omega⟩
      rcases hy_below x2 (show VS2 < 2 ^ 31 by omega) with ⟨cy2, p2⟩ | ⟨cy2, p2⟩
      case inr =>
        have my : f_Model_isIn x2.toInt64 0 ((nI VS2).toInt64 - 1) = nI 0 := by
          rcases mm2 with ⟨a, b⟩ | ⟨a, b⟩
          · exact absurd b p2
          · exact a
        rw [cy2, my, if_pos (show nI 0 = 0 by decide), if_pos (show nI 0 = 0 by decide)]
        exact ⟨rfl, hinv _ _ _ _ _ _ _⟩
      have my2 : f_Model_isIn x2.toInt64 0 ((nI VS2).toInt64 - 1) = nI 1 := by
        rcases mm2 with ⟨a, b⟩ | ⟨a, b⟩
        · exact a
        · exact absurd p2 b
      have k2 := hy_clamp p2.1
      rw [cy2, my2, if_neg (show ¬ nI 1 = 0 by decide), if_neg (show ¬ nI 1 = 0 by decide), if_pos rfl, if_neg (show ¬ 1 = 0 by decide), if_neg f10, if_neg f10, if_pos rfl]
      refine ⟨?_, hinv _ _ _ _ _ _ _⟩
      have sent := hM_send (VM1 := VS0) (VM2 := VS2) (VM3 := VY0) (VM4 := VS1) (NM0 := NS0) (NM1 := NS1) (NM2 := NS2) (LM0 := LS0) (LM1 := LS1) (LM2 := LS4) (LM3 := LS5) (LM4 := LM4) (LM5 := LM5) (LM6 := LY0) (LM7 := LY1) (LM8 := LY2) (LM9 := LS2) (LM10 := LS3) (LM11 := LM11) (IM0 := IM0) (IM1 := IM1) (-2) x2 1 (-2) LM13 LM14 LM15 IM3 hv b5 b7 b2 (by omega) (by decide) (fun s hs1 e => absurd e (hv_m2 (by omega)))
      generalize f_Model_lay VS0 VS2 VY0 VS1 NS0 NS1 NS2 LS0 LS1 LS4 LS5 LM4 LM5 LY0 LY1 LY2 LS2 LS3 LM11 LM13 LM14 IM0 IM1 (-2) x2 1 (-2) = LL at sent ⊢
      obtain ⟨s1, s2, s3, s4, s5, s6⟩ := sent
      have s4' := hn_is_congr (sv' := hz_svp VS0 NS0 NS1 NS2 IM0) (cap' := hI_C VS0 NS0 LS0 LM4 LM5) (want' := fun f => if f = x2.toNatClampNeg then hI_w LS4 f + 1 else hI_w LS4 f) (most' := fun w => (LM11 w).toInt) (fun s hs1 hc => by
        have g := hv_gives (NM0 := NS0) hv b5 s
        show (hl_cap VS0 NS0 LS0 LM4 LM5 (-2) s).toInt = hI_C VS0 NS0 LS0 LM4 LM5 s
        unfold hl_cap hI_C
        rw [if_pos hc, if_neg (hv_m2 (by omega)), if_pos hc, h64_sub (by rw [h64_0]; omega) (by rw [h64_0]; omega), h64_0]
        omega) (fun f hf => by
        have g := hv.2.2.1 f
        show (hl_wt LS4 x2 1 f).toInt = if f = x2.toNatClampNeg then (LS4 f).toInt + 1 else (LS4 f).toInt
        unfold hl_wt
        by_cases e : f = x2.toNatClampNeg
        · rw [if_pos (by rw [e]; exact k2.2), if_pos e, h64_add (by rw [one]; omega) (by rw [one]; omega), one]
        · rw [if_neg (fun z => e (by rw [← z, nI_clamp (by omega)])), if_neg e, h64_add (by rw [h64_0]; omega) (by rw [h64_0]; omega), h64_0]
          omega) (fun _ _ => rfl) (fun _ _ _ _ => Iff.rfl) s4
      have res := hD_more hs0 g3 g4 g5 g6 (k := x2.toNatClampNeg) (by omega) LP4 IP0 IP1 ⟨s1, s2, s3, s4', s5, s6⟩
      have due : (f_Model_wanted VS2 LS4 + (nI 1).toInt64).toInt = hs (hI_w LS4) VS2 + 1 := by
        have e : ((nI 1).toInt64).toInt = 1 := by decide
        rw [h64_add (by omega) (by omega), e, hw]
      show f_HaulFlows_partOfChange (f_Plan_priceOfOneMore (VS0 + VS1) VS2 LP0 LP1 LP2 LP3 LP4 IP0 IP1 VS2 NS2 LS4 LS8 x2.toNatClampNeg).1 x3 = (f_Model_differs VS0 VS2 VS1 WM0 NS0 NS1 NS2 LL.1 LL.2 LM15 IM0 IM3 (f_Model_wanted VS2 LS4 + (nI 1).toInt64) x3).1
      rcases res with ⟨r1, r2⟩ | ⟨r1, r2, r3⟩
      · exact hD_ans (Or.inl ⟨r1, fun q => r2 (by rw [q, due])⟩)
      · refine hD_ans (Or.inr ⟨fun q => by rw [q, hk_m1] at r1; omega, Int64.toInt_inj.mp (by rw [r2, due]), Int64.toInt_inj.mp ?_⟩)
        have nb0 := hw_rows (k := VS0 + VS1) (u := hI_u VS0 VY0 NS2 LS1 LS5 LY0 LY1 LY2 LS2 LS3 IM1 (-2)) (x := hk_X LP1) (show VS0 + VS1 ≤ 12 by omega) b2 (fun s f a b => (hO_num g4 (by omega) s f a b).2) (fun s f a b => Or.inl (by have := hv_unit (VM1 := VS0) (VM3 := VY0) (NM2 := NS2) (IM1 := IM1) hv s f (-2); unfold hI_u; omega)) (Nat.le_refl _)
        have nb0' : 0 ≤ hcost (hI_u VS0 VY0 NS2 LS1 LS5 LY0 LY1 LY2 LS2 LS3 IM1 (-2)) (hk_X LP1) (VS0 + VS1) VS2 ∧ hcost (hI_u VS0 VY0 NS2 LS1 LS5 LY0 LY1 LY2 LS2 LS3 IM1 (-2)) (hk_X LP1) (VS0 + VS1) VS2 ≤ 14400000000000000 := nb0
        have tb := Int64.toInt_lt (f_Model_total VS0 VS2 VS1 NS0 NS1 NS2 (f_Model_sendAll LL.1 LL.2 LM15 IM3).2.1 LL.2 IM0)
        have pb := Int64.toInt_lt (f_Plan_priceOfOneMore (VS0 + VS1) VS2 LP0 LP1 LP2 LP3 LP4 IP0 IP1 VS2 NS2 LS4 LS8 x2.toNatClampNeg).1
        rw [Int64.toInt_sub, g9, Int.bmod_eq_of_le (by omega) (by omega)]
        exact r3
    · -- neither
      have cy1 : f_HaulFlows_isBelow x1 (nI 2) = nI 0 := by
        rcases cc1 with ⟨a, b⟩ | ⟨a, b⟩
        · exfalso
          have hc : x1.toInt = 0 ∨ x1.toInt = 1 := by omega
          rcases hc with q | q
          · exact hx0 (Int32.toInt_inj.mp (by rw [q, z32]))
          · exact hx1 (Int32.toInt_inj.mp (by rw [q, o32]))
        · exact a
      rw [cy1, if_pos (show nI 0 = 0 by decide), if_neg hx0, if_neg hx1]
      by_cases c3 : f_Model_isIn x3.toInt64 0 1 = 0
      · rw [if_pos c3]
        exact ⟨rfl, hinv _ _ _ _ _ _ _⟩
      · rw [if_neg c3]
        exact ⟨rfl, hinv _ _ _ _ _ _ _⟩
