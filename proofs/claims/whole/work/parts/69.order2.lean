section HORDER2
variable {n F cuts : Nat} {sv : Nat → Nat → Prop} {capi want : Nat → Int} {wk : Nat → Nat} {most : Nat → Int} {u : Nat → Nat → Int} {K : Int} {C : Nat → Int64} {d : Nat → Nat → Int64} {pi : Nat → Int}
/-- no ring that costs nothing is left: the cell is as great as it can be -/
theorem hz_lexcut (hC : hl_C d C) (hu : ∀ s f, s < n → f < F → sv s f → (d s f).toInt = u s f) (hd : ∀ s f, s < n → f < F → -1000000 ≤ (d s f).toInt ∧ (d s f).toInt ≤ 1000000) {S X : Nat} {R : Nat → Int64} {Bt : Nat → Nat → Int} (hO : hz_O n F cuts sv capi want wk most u C pi S (X + 1) R Bt) (hS : S < n) (hX : X < F) (hsv : sv S X) {far : Nat → Int64} {bef : Nat → Int32} (hG : hm_Good R C pi (13 + X) (far, bef)) (hfar : ¬ far (1 + S) = -(C (34 * (1 + S) + 13 + X))) (hK : K ≤ hcost u (hn_x Bt) n F) :
    hz_lx n F cuts sv capi want u K (hn_x Bt) S X := by
  obtain ⟨hn12, hF, hwt⟩ := hO.n12
  have hfull := hO.full
  obtain ⟨hN, hP, hOrd, hfz⟩ := id hO
  obtain ⟨hPPt, q0, q1, q2, q3, q4, q5⟩ := hn_all hN
  have hcb := hOrd.2.1
  have hpb := hOrd.pb
  have eC : (C (34 * (1 + S) + 13 + X)).toInt = u S X := by
    have k := hC (1 + S) (13 + X) (by omega) (by omega)
    rw [show 34 * (1 + S) + (13 + X) = 34 * (1 + S) + 13 + X by omega] at k
    rw [k]
    unfold hl_w
    rw [if_pos (by omega), show 1 + S - 1 = S by omega, show 13 + X - 13 = X by omega, hu S X hS hX hsv]
  have dSX := hd S X hS hX
  rw [hu S X hS hX hsv] at dSX
  have fwd := hP.1 S X hS hX hsv
  obtain ⟨n1, n2⟩ := hz_far hcb hpb (show 13 + X < 34 by omega) hG
  have hI := hG.1
  have far0 : (far (13 + X)).toInt = 0 := hI.1
  -- the potential: distances where they are, the old one far above where not
  have pv : ∀ a b, a < 34 → b < 34 → 0 < hz_B R a b → (if (far b).toInt < 4000000000000000 then (far b).toInt else pi b + 20000000000000000) ≤ (if (far a).toInt < 4000000000000000 then (far a).toInt else pi a + 20000000000000000) + (C (34 * a + b)).toInt := by
    intro a b ha hb hp
    have cc := hcb (34 * a + b) (by omega)
    have pa := hpb a ha
    have pb := hpb b hb
    by_cases ra : (far a).toInt < 4000000000000000
    · have k := n2 a b ha hb ⟨ha, ra⟩ hp
      have k2 : (far b).toInt ≤ (far a).toInt + (C (34 * a + b)).toInt := k.2
      have k1 : (far b).toInt < 4000000000000000 := k.1.2
      rw [if_pos ra, if_pos k1]
      exact k2
    · rw [if_neg ra]
      by_cases rb : (far b).toInt < 4000000000000000
      · rw [if_pos rb]
        have k : (far b).toInt ≤ 1000000000 := n1 b ⟨hb, rb⟩
        omega
      · rw [if_neg rb]
        have k := hOrd.1 a b ha hb hp
        omega
  intro y hy hag
  refine Classical.byContradiction (fun hlt => ?_)
  obtain ⟨y1, y2, y3, y4⟩ := hy
  refine hq_potcut (n := n) (F := F) (u := u) (d := fun s f => y s f - hn_x Bt s f) (ps := fun s => if (far (1 + s)).toInt < 4000000000000000 then (far (1 + s)).toInt else pi (1 + s) + 20000000000000000) (pf := fun f => if (far (13 + f)).toInt < 4000000000000000 then (far (13 + f)).toInt else pi (13 + f) + 20000000000000000) (a0 := if (far 0).toInt < 4000000000000000 then (far 0).toInt else pi 0 + 20000000000000000) (s0 := S) (f0 := X) hS hX (fun f hf => ?_) ?_ (fun s f h1 h2 hne => ?_) (fun s h1 => ?_) ?_ ?_
  · rw [hcol_sub, y3 f hf, hfull f hf, Int.sub_self]
  · rw [hcost_sub]
    omega
  · -- a cell
    show 0 ≤ (u s f + (if (far (1 + s)).toInt < 4000000000000000 then (far (1 + s)).toInt else pi (1 + s) + 20000000000000000) - (if (far (13 + f)).toInt < 4000000000000000 then (far (13 + f)).toInt else pi (13 + f) + 20000000000000000)) * (y s f - hn_x Bt s f)
    by_cases hb : s < S ∨ (s = S ∧ f < X)
    · rw [hag s f h1 h2 hb, Int.sub_self, Int.mul_zero]
      exact Int.le_refl _
    · by_cases hsv' : sv s f
      · have nf : ¬ hz_fz S (X + 1) (1 + s) (13 + f) := by unfold hz_fz; omega
        have nf2 : ¬ hz_fz S (X + 1) (13 + f) (1 + s) := fun q => nf (hz_fz_symm q)
        have r1 := (hfz (1 + s) (13 + f) (by omega) (by omega)).2 nf
        have r2 := (hfz (13 + f) (1 + s) (by omega) (by omega)).2 nf2
        have v1 := pv (1 + s) (13 + f) (by omega) (by omega) (by rw [r1]; exact (q2 s f h1 h2).1 hsv')
        have cf : (C (34 * (1 + s) + (13 + f))).toInt = u s f := by
          rw [hC _ _ (by omega) (by omega)]
          unfold hl_w
          rw [if_pos (by omega), show 1 + s - 1 = s by omega, show 13 + f - 13 = f by omega, hu s f h1 h2 hsv']
        have cb : (C (34 * (13 + f) + (1 + s))).toInt = - u s f := by
          have b := hd s f h1 h2
          rw [hC _ _ (by omega) (by omega)]
          unfold hl_w
          rw [if_neg (by omega), if_pos (by omega), show 1 + s - 1 = s by omega, show 13 + f - 13 = f by omega, h64_neg (by omega), hu s f h1 h2 hsv']
        rw [cf] at v1
        by_cases hpz : 0 < hn_x Bt s f
        · have v2 := pv (13 + f) (1 + s) (by omega) (by omega) (by rw [r2]; exact hpz)
          rw [cb] at v2
          rw [show u s f + (if (far (1 + s)).toInt < 4000000000000000 then (far (1 + s)).toInt else pi (1 + s) + 20000000000000000) - (if (far (13 + f)).toInt < 4000000000000000 then (far (13 + f)).toInt else pi (13 + f) + 20000000000000000) = 0 by omega, Int.zero_mul]
          exact Int.le_refl _
        · have z := (hPPt.1 s f h1 h2).1
          have yy := (y1 s f h1 h2).1
          exact Int.mul_nonneg (by omega) (by omega)
      · have z := (hPPt.1 s f h1 h2).2 hsv'
        have yy := (y1 s f h1 h2).2 hsv'
        rw [z, yy, Int.sub_self, Int.mul_zero]
        exact Int.le_refl _
  · -- a row
    show ((if (far (1 + s)).toInt < 4000000000000000 then (far (1 + s)).toInt else pi (1 + s) + 20000000000000000) - (if (far 0).toInt < 4000000000000000 then (far 0).toInt else pi 0 + 20000000000000000)) * hrow (fun s f => y s f - hn_x Bt s f) F s ≤ 0
    rw [hrow_sub]
    have nf : ¬ hz_fz S (X + 1) (1 + s) 0 := by unfold hz_fz; omega
    have nf2 : ¬ hz_fz S (X + 1) 0 (1 + s) := by unfold hz_fz; omega
    have r1 := (hfz (1 + s) 0 (by omega) (by omega)).2 nf
    have r2 := (hfz 0 (1 + s) (by omega) (by omega)).2 nf2
    have zrow := hrow_nn (x := hn_x Bt) (fun s f a b => (hPPt.1 s f a b).1) h1
    have c0 : (C (34 * (1 + s) + 0)).toInt = 0 := by
      rw [hC (1 + s) 0 (by omega) (by omega)]
      unfold hl_w
      rw [if_neg (by omega), if_neg (by omega), h64_0]
    have c1 : (C (34 * 0 + (1 + s))).toInt = 0 := by
      rw [hC 0 (1 + s) (by omega) (by omega)]
      unfold hl_w
      rw [if_neg (by omega), if_neg (by omega), h64_0]
    -- more than the plan: then something is left
    have up : hrow (hn_x Bt) F s < hrow y F s → (if (far (1 + s)).toInt < 4000000000000000 then (far (1 + s)).toInt else pi (1 + s) + 20000000000000000) ≤ (if (far 0).toInt < 4000000000000000 then (far 0).toInt else pi 0 + 20000000000000000) := by
      intro hlt2
      have hp : 0 < hz_B R 0 (1 + s) := by
        rw [r2]
        by_cases c : s < cuts
        · rw [(q1 s h1).2.1 c]
          have := y2 s h1 c
          omega
        · exact (q1 s h1).2.2 (by omega)
      have v := pv 0 (1 + s) (by omega) (by omega) hp
      omega
    have dn : 0 < hrow (hn_x Bt) F s → (if (far 0).toInt < 4000000000000000 then (far 0).toInt else pi 0 + 20000000000000000) ≤ (if (far (1 + s)).toInt < 4000000000000000 then (far (1 + s)).toInt else pi (1 + s) + 20000000000000000) := by
      intro hp0
      have v := pv (1 + s) 0 (by omega) (by omega) (by rw [r1, (q1 s h1).1]; exact hp0)
      omega
    generalize (if (far (1 + s)).toInt < 4000000000000000 then (far (1 + s)).toInt else pi (1 + s) + 20000000000000000) = p1 at up dn ⊢
    generalize (if (far 0).toInt < 4000000000000000 then (far 0).toInt else pi 0 + 20000000000000000) = p0 at up dn ⊢
    rcases Int.lt_trichotomy (hrow y F s) (hrow (hn_x Bt) F s) with e | e | e
    · have yn := hrow_nn (x := y) (fun s f a b => (y1 s f a b).1) h1
      exact Int.mul_nonpos_of_nonneg_of_nonpos (by have := dn (by omega); omega) (by omega)
    · rw [e, Int.sub_self, Int.mul_zero]
      exact Int.le_refl _
    · exact Int.mul_nonpos_of_nonpos_of_nonneg (by have := up e; omega) (by omega)
  · show 0 < y S X - hn_x Bt S X
    omega
  · show 0 < u S X + (if (far (1 + S)).toInt < 4000000000000000 then (far (1 + S)).toInt else pi (1 + S) + 20000000000000000) - (if (far (13 + X)).toInt < 4000000000000000 then (far (13 + X)).toInt else pi (13 + X) + 20000000000000000)
    rw [far0, if_pos (show (0 : Int) < 4000000000000000 by omega)]
    have pa := hpb (1 + S) (by omega)
    by_cases r1 : (far (1 + S)).toInt < 4000000000000000
    · rw [if_pos r1]
      have k := hI.2.1 (1 + S) (by omega)
      have k2 : pi (1 + S) - pi (13 + X) ≤ (far (1 + S)).toInt := by
        rcases k with k | k
        · have k' : (far (1 + S)).toInt = 4000000000000000 := k
          omega
        · exact k.2
      have ne : (far (1 + S)).toInt ≠ - u S X := by
        intro e
        apply hfar
        apply Int64.toInt_inj.mp
        rw [h64_neg (by omega), eC]
        exact e
      omega
    · rw [if_neg r1]
      omega
end HORDER2
