section HRUN3
variable {VM1 VM2 VM3 VM4 : Nat} {NM0 NM1 NM2 : Nat → Nat} {LM0 LM1 LM2 LM3 LM4 LM5 LM6 LM7 LM8 LM9 LM10 LM11 LS6 LS7 LS8 : Nat → Int64} {IM0 IM1 IS0 IY0 : Nat → Int32}
/-- two first plans of the best are one -/
theorem hR_same (hs0 : hI_S VM1 VM4 VM2 NM0 NM1 NM2 LM0 LM1 LM9 LM10 LM2 LM3 LS6 LS7 LS8 IS0 VM3 LM6 LM7 LM8 IY0 VM1 VM2 VM3 VM4 NM0 NM1 NM2 LM0 LM1 LM2 LM3 LM4 LM5 LM6 LM7 LM8 LM9 LM10 LM11 IM0 IM1) {LP0 LP1 LP2 LP3 : Nat → Int64} (hU : hI_U VM1 VM2 VM3 VM4 NM0 NM1 NM2 LM1 LM3 LM6 LM7 LM8 LM9 LM10 IM0 IM1 (-2) LP0) (hS : hk_S (VM1 + VM4) VM2 LP0 (hI_C VM1 NM0 LM0 LM4 LM5) (hI_w LM2) LP1 LP2 LP3) (hlx : ∀ s f, s < VM1 + VM4 → f < VM2 → hz_lx (VM1 + VM4) VM2 VM1 (hz_svp VM1 NM0 NM1 NM2 IM0) (hI_C VM1 NM0 LM0 LM4 LM5) (hI_w LM2) (hI_u VM1 VM3 NM2 LM1 LM3 LM6 LM7 LM8 LM9 LM10 IM1 (-2)) (hcost (hI_u VM1 VM3 NM2 LM1 LM3 LM6 LM7 LM8 LM9 LM10 IM1 (-2)) (hk_X LP1) (VM1 + VM4) VM2) (hk_X LP1) s f)
    {K : Int} {P : Nat → Int64} {z : Nat → Nat → Int} (hP : ∀ s f, s < VM1 + VM4 → f < VM2 → (P (8 * s + f)).toInt = z s f) (hz : hz_Opt (VM1 + VM4) VM2 VM1 (hz_svp VM1 NM0 NM1 NM2 IM0) (hI_C VM1 NM0 LM0 LM4 LM5) (hI_w LM2) (hI_u VM1 VM3 NM2 LM1 LM3 LM6 LM7 LM8 LM9 LM10 IM1 (-2)) K z) (lz : ∀ s f, s < VM1 + VM4 → f < VM2 → hz_lx (VM1 + VM4) VM2 VM1 (hz_svp VM1 NM0 NM1 NM2 IM0) (hI_C VM1 NM0 LM0 LM4 LM5) (hI_w LM2) (hI_u VM1 VM3 NM2 LM1 LM3 LM6 LM7 LM8 LM9 LM10 IM1 (-2)) K z s f)
    (hmin : ∀ y, (∀ s f, s < VM1 + VM4 → f < VM2 → 0 ≤ y s f ∧ (¬ hz_svp VM1 NM0 NM1 NM2 IM0 s f → y s f = 0)) → (∀ s, s < VM1 + VM4 → s < VM1 → hrow y VM2 s ≤ hI_C VM1 NM0 LM0 LM4 LM5 s) → (∀ f, f < VM2 → hcol y (VM1 + VM4) f = hI_w LM2 f) → K ≤ hcost (hI_u VM1 VM3 NM2 LM1 LM3 LM6 LM7 LM8 LM9 LM10 IM1 (-2)) y (VM1 + VM4) VM2) :
    (∀ s f, s < VM1 + VM4 → f < VM2 → LP1 (s * 9 + f) = P (8 * s + f)) ∧ K = hcost (hI_u VM1 VM3 NM2 LM1 LM3 LM6 LM7 LM8 LM9 LM10 IM1 (-2)) (hk_X LP1) (VM1 + VM4) VM2 := by
  have hR := hI_U.R hs0 hU
  have ct := hR_cert (cuts := VM1) hR hS (hR_pit hs0)
  have x1 : ∀ s f, s < VM1 + VM4 → f < VM2 → 0 ≤ hk_X LP1 s f ∧ (¬ hz_svp VM1 NM0 NM1 NM2 IM0 s f → hk_X LP1 s f = 0) := fun s f a b => hR_sv hR hS a b
  have x2 : ∀ s, s < VM1 + VM4 → s < VM1 → hrow (hk_X LP1) VM2 s ≤ hI_C VM1 NM0 LM0 LM4 LM5 s := fun s a _ => hR_row hS a
  have k1 := hmin (hk_X LP1) x1 x2 hS.2.2
  have k2 := ct.best hz.1 hz.2.1 (fun f hf => by rw [hz.2.2.1 f hf, hS.2.2 f hf])
  have k3 := hz.2.2.2
  have eK : K = hcost (hI_u VM1 VM3 NM2 LM1 LM3 LM6 LM7 LM8 LM9 LM10 IM1 (-2)) (hk_X LP1) (VM1 + VM4) VM2 := by omega
  refine ⟨fun s f a b => ?_, eK⟩
  rw [← eK] at hlx
  have e := hR_uniq (x := hk_X LP1) (z := z) ⟨x1, x2, hS.2.2, by omega⟩ hz hlx lz (s * VM2 + f + 1) s f (Nat.lt_succ_self _) a b
  apply Int64.toInt_inj.mp
  rw [hP s f a b]
  exact e
/-- a full plan that keeps its weeks is a plan on the reference's side -/
theorem hR_xPP (hs0 : hI_S VM1 VM4 VM2 NM0 NM1 NM2 LM0 LM1 LM9 LM10 LM2 LM3 LS6 LS7 LS8 IS0 VM3 LM6 LM7 LM8 IY0 VM1 VM2 VM3 VM4 NM0 NM1 NM2 LM0 LM1 LM2 LM3 LM4 LM5 LM6 LM7 LM8 LM9 LM10 LM11 IM0 IM1) {LP0 LP1 LP2 LP3 : Nat → Int64} (hU : hI_U VM1 VM2 VM3 VM4 NM0 NM1 NM2 LM1 LM3 LM6 LM7 LM8 LM9 LM10 IM0 IM1 (-2) LP0) (hS : hk_S (VM1 + VM4) VM2 LP0 (hI_C VM1 NM0 LM0 LM4 LM5) (hI_w LM2) LP1 LP2 LP3) (hwks : hI_wks VM2 NM2 LM2 (fun w => (LS8 w).toInt)) : hPP (VM1 + VM4) VM2 VM1 (hz_svp VM1 NM0 NM1 NM2 IM0) (hI_C VM1 NM0 LM0 LM4 LM5) (hI_w LM2) NM2 (fun w => (LM11 w).toInt) (hk_X LP1) ∧ h2 (hk_X LP1) (VM1 + VM4) VM2 = hs (hI_w LM2) VM2 := by
  have hR := hI_U.R hs0 hU
  have ws := hR_wsum hs0
  refine ⟨hPP_most (hR_mo hs0).2 (by omega) ⟨fun s f a b => hR_sv hR hS a b, fun s a _ => hR_row hS a, fun f hf => by rw [hS.2.2 f hf]; exact Int.le_refl _, fun w hw => ?_⟩, ?_⟩
  · rw [hR_wkfull hS.2.2 w]
    exact hwks w hw
  · rw [h2_cols]
    exact hs_congr hS.2.2
theorem hR_zfull (hs0 : hI_S VM1 VM4 VM2 NM0 NM1 NM2 LM0 LM1 LM9 LM10 LM2 LM3 LS6 LS7 LS8 IS0 VM3 LM6 LM7 LM8 IY0 VM1 VM2 VM3 VM4 NM0 NM1 NM2 LM0 LM1 LM2 LM3 LM4 LM5 LM6 LM7 LM8 LM9 LM10 LM11 IM0 IM1) {K : Int} {z : Nat → Nat → Int} {r : Int64 × (Nat → Int64) × (Nat → Int64) × (Nat → Int32)} {d : Nat → Nat → Int64} {CO : Nat → Int64} (hr : hM_sent (VM1 + VM4) VM2 VM1 (hz_svp VM1 NM0 NM1 NM2 IM0) (hI_C VM1 NM0 LM0 LM4 LM5) (hI_w LM2) NM2 (fun w => (LM11 w).toInt) (hI_u VM1 VM3 NM2 LM1 LM3 LM6 LM7 LM8 LM9 LM10 IM1 (-2)) d CO r) (hfull : r.1.toInt = hs (hI_w LM2) VM2) :
    hPP (VM1 + VM4) VM2 VM1 (hz_svp VM1 NM0 NM1 NM2 IM0) (hI_C VM1 NM0 LM0 LM4 LM5) (hI_w LM2) NM2 (fun w => (LS8 w).toInt) (hn_x (hz_B r.2.1)) ∧ (∀ f, f < VM2 → hcol (hn_x (hz_B r.2.1)) (VM1 + VM4) f = hI_w LM2 f) ∧ h2 (hn_x (hz_B r.2.1)) (VM1 + VM4) VM2 = hs (hI_w LM2) VM2 := by
  obtain ⟨hPPx, q0, -⟩ := hn_all hr.2.2.2.1
  have ws := hR_wsum hs0
  exact ⟨hPP_most (hR_mo hs0).1 (by omega) hPPx, hPP_full hPPx (by rw [← q0, hfull]; exact Int.le_refl _), by rw [← q0, hfull]⟩
/-- what find() leaves, with the reference's flags -/
theorem hR_found (hs0 : hI_S VM1 VM4 VM2 NM0 NM1 NM2 LM0 LM1 LM9 LM10 LM2 LM3 LS6 LS7 LS8 IS0 VM3 LM6 LM7 LM8 IY0 VM1 VM2 VM3 VM4 NM0 NM1 NM2 LM0 LM1 LM2 LM3 LM4 LM5 LM6 LM7 LM8 LM9 LM10 LM11 IM0 IM1) {B : Nat → Nat → Int} {v : Int} (hB : hn_is (VM1 + VM4) VM2 VM1 (hz_svp VM1 NM0 NM1 NM2 IM0) (hI_C VM1 NM0 LM0 LM4 LM5) (hI_w LM2) NM2 (fun w => (LS8 w).toInt) B v) (hst : ∃ sn, h01 sn ∧ sn 0 = 1 ∧ sn 33 = 0 ∧ ∀ a b, a < 34 → b < 34 → sn a = 1 → 0 < B a b → sn b = 1) (hlt : v < hs (hI_w LM2) VM2) {c : Nat → Bool} {VT0 : Nat} {NT0 : Nat → Nat} (hl : hc_list c VM2 VT0 NT0) (hc : ∀ f, f < VM2 → (c f = true ↔ ∀ S : Nat → Prop, S (13 + f) → (∀ a b, a < 34 → b < 34 → S a → 0 < B a b → S b) → S (21 + NM2 f)))
    {u : Nat → Nat → Int} {d : Nat → Nat → Int64} {CO : Nat → Int64} {r : Int64 × (Nat → Int64) × (Nat → Int64) × (Nat → Int32)} (hr : hM_sent (VM1 + VM4) VM2 VM1 (hz_svp VM1 NM0 NM1 NM2 IM0) (hI_C VM1 NM0 LM0 LM4 LM5) (hI_w LM2) NM2 (fun w => (LM11 w).toInt) u d CO r) {I2 : Nat → Int32} (hfl : ∀ f, f < VM2 → hR_flag VM1 VM2 VM4 NM0 NM1 NM2 LM0 LM2 LM4 LM5 LM11 IM0 r.1.toInt f (I2 f)) : hI_clash VT0 NT0 LS8 VM1 VM2 VM3 VM4 NM0 NM1 NM2 LM0 LM1 LM2 LM3 LM4 LM5 LM6 LM7 LM8 LM9 LM10 LM11 IM0 IM1 I2 := by
  refine ⟨B, v, hB, hlt, hst, c, hl, hc, fun f hf => ?_⟩
  obtain ⟨u', d', CO', r', h1, h2⟩ := hfl f hf
  rw [hc f hf, h2]
  exact (hR_clashf hs0 hB hst hr hf h1).2
end HRUN3
theorem hi_run_is : hi_run hi_Inv := by
  intro VH0 VS0 VS1 VS2 NS0 NS1 NS2 LS0 LS1 LS2 LS3 LS4 LS5 LS6 LS7 LS8 IS0 VY0 LY0 LY1 LY2 IY0 VP0 VP1 VP2 NP0 LP0 LP1 LP2 LP3 LP4 IP0 IP1 VQ0 VQ1 VQ2 NQ0 LQ0 LQ1 LQ2 LQ3 LQ4 IQ0 IQ1 VT0 NT0 NT1 LT0 IT0 VM0 VM1 VM2 VM3 VM4 VM5 WM0 NM0 NM1 NM2 LM0 LM1 LM2 LM3 LM4 LM5 LM6 LM7 LM8 LM9 LM10 LM11 LM12 LM13 LM14 LM15 IM0 IM1 IM2 IM3 x1 h
  obtain ⟨hs0, ⟨q1, q2, q3⟩, hst, hH2, hpl, hcl⟩ := id h
  obtain ⟨e1, e2, e3, e4, e5, e6, e7, e8, e9, e10, e11, e12, e13, e14, e15, e16⟩ := hs0.1
  subst e1 e2 e3 e4 e5 e6 e7 e8 e9 e10 e11 e12 e13 e14 e15 e16
  obtain ⟨-, ⟨b1, b2, b3, b4, b5, b6, b7⟩, h6, h8, hbits, hbars, hv⟩ := id hs0
  refine ⟨fun hok => ?_, fun hno => ?_⟩
  · obtain ⟨q, r, hq, hq1, hr, hres⟩ := hR_run hs0 VM5 WM0 LM12 LM13 LM14 LM15 IM2 IM3 hok
    rw [hq]
    refine ⟨hq1, ?_⟩
    unfold f_HaulFlows_run
    rw [hh_bind, show f_Site_sources VS0 VS1 = VS0 + VS1 from rfl, if_pos hok]
    -- nobody finds a plan where there is none
    have noplan : r.1.toInt = hs (hI_w LS4) VS2 → ∀ v B, hn_is (VS0 + VS1) VS2 VS0 (hz_svp VS0 NS0 NS1 NS2 IM0) (hI_C VS0 NS0 LS0 LM4 LM5) (hI_w LS4) NS2 (fun w => (LS8 w).toInt) B v → (∃ sn, h01 sn ∧ sn 0 = 1 ∧ sn 33 = 0 ∧ ∀ a b, a < 34 → b < 34 → sn a = 1 → 0 < B a b → sn b = 1) → ¬ v < hs (hI_w LS4) VS2 := by
      intro hf v B hB hst' hlt
      have z := hR_zfull (K := 0) (z := fun _ _ => 0) hs0 hr hf
      have k := (hR_vmax hB hst' z.1).1
      omega
    -- and who finds none leaves the clashing fills
    have clash : (∀ y, hPP (VS0 + VS1) VS2 VS0 (hz_svp VS0 NS0 NS1 NS2 IM0) (hI_C VS0 NS0 LS0 LM4 LM5) (hI_w LS4) NS2 (fun w => (LS8 w).toInt) y → ¬ h2 y (VS0 + VS1) VS2 = hs (hI_w LS4) VS2) → q.1 = 1 ∧ q.2.2.1 = 2 ∧ hI_clash (f_Shortage_find NT0 NT1 LT0 IT0 VS0 VS1 VS2 NS0 NS1 NS2 LS0 LS4 LS6 LS7 LS8 IS0).2.2.2.1 (f_Shortage_find NT0 NT1 LT0 IT0 VS0 VS1 VS2 NS0 NS1 NS2 LS0 LS4 LS6 LS7 LS8 IS0).2.2.2.2 LS8 VS0 VS2 VY0 VS1 NS0 NS1 NS2 LS0 LS1 LS4 LS5 LM4 LM5 LY0 LY1 LY2 LS2 LS3 LM11 IM0 IM1 (q.2.2.2.2.2.2.2.2.1) ∧ (f_Shortage_find NT0 NT1 LT0 IT0 VS0 VS1 VS2 NS0 NS1 NS2 LS0 LS4 LS6 LS7 LS8 IS0).2.2.2.1 ≤ 8 := by
      intro hno2
      obtain ⟨B, v, f1, f2, c, f3, f4⟩ := hd_find (VS0 := VS0) (VS1 := VS1) (VS2 := VS2) (NS0 := NS0) (NS1 := NS1) (NS2 := NS2) (LS0 := LS0) (LS4 := LS4) (LS6 := LS6) (LS7 := LS7) (LS8 := LS8) (IS0 := IS0) b2 (by omega) b7 (fun f _ => hv.2.2.1 f) (fun s _ => by rw [hR_cap hs0]; exact hR_capb hs0 s) (fun w hw => (hR_spare hs0 hw).2) NT0 NT1 LT0 IT0
      have f1' : hn_is (VS0 + VS1) VS2 VS0 (hz_svp VS0 NS0 NS1 NS2 IM0) (hI_C VS0 NS0 LS0 LM4 LM5) (hI_w LS4) NS2 (fun w => (LS8 w).toInt) B v := hn_is_congr (fun s _ _ => hR_cap hs0 s) (fun _ _ => rfl) (fun _ _ => rfl) (fun s f _ hf => by
        have es : hk_sv VS0 NS0 NS1 NS2 IS0 s f = f_Model_serves VS0 NS0 NS1 NS2 IM0 s f := hy_serves hbits b5 s (by omega)
        show ¬ hk_sv VS0 NS0 NS1 NS2 IS0 s f = 0 ↔ ¬ f_Model_serves VS0 NS0 NS1 NS2 IM0 s f = 0
        rw [es]) f1
      obtain ⟨hPPx, qv, -⟩ := hn_all f1'
      have hlt : v < hs (hI_w LS4) VS2 := by
        have a := (hR_vmax f1' f2 hPPx).2
        have b := hno2 _ hPPx
        omega
      have ln : (f_Shortage_find NT0 NT1 LT0 IT0 VS0 VS1 VS2 NS0 NS1 NS2 LS0 LS4 LS6 LS7 LS8 IS0).2.2.2.1 ≤ 8 := by
        have a := f3.1
        have b := hn_le c VS2
        omega
      rcases hres with ⟨g1, -⟩ | ⟨g1, g2, g3, g4⟩
      · exact absurd hlt (noplan g1 v B f1' f2)
      · exact ⟨g2, g3, hR_found hs0 f1' f2 hlt f3 f4 hr g4, ln⟩
    by_cases c0 : VH0 = 0
    · rw [if_pos c0, hh_bind]
      unfold f_HaulFlows_workOut
      rw [hh_bind]
      rcases hR_suff hs0 with ⟨w1, w2⟩ | ⟨w1, w2⟩
      · -- too much for a week
        rw [if_pos w1, hh_bind]
        obtain ⟨k1, k2, k3, k4⟩ := clash (fun y hy hy2 => by
          obtain ⟨w, w12, w3⟩ := w2
          have a := hy.2.2.2 w w12
          rw [hR_wkfull (hPP_full hy (by omega)) w] at a
          have a' : hs (fun f => if NS2 f = w then hI_w LS4 f else 0) VS2 ≤ (LS8 w).toInt := a
          omega)
        rw [if_neg (show ¬ 2 = 1 by decide)]
        exact ⟨k1.symm, hs0, ⟨q1, hQ_find b2 NT0 LT0 IT0 q2, k4⟩, k2.symm, Nat.le_refl _, fun z => absurd (show 2 = 1 from z) (by decide), fun _ => k3⟩
      · rw [if_neg w1, hh_bind]
        obtain ⟨y, y0, y1, y2, y3, y4⟩ := hR_make hs0 (x6 := -1) (x5 := -2) (fun w hw => ⟨fun e => absurd e (nI_nm1 (by omega)), fun e => absurd e (hv_m2 (by omega))⟩) LP0 LP1 LP2 LP3 LP4 IP0 IP1
        rw [y0]
        rcases y4 with ⟨m1, m2, m3⟩ | ⟨m1, m2⟩
        · -- a plan
          rw [m1, if_neg (show ¬ nI 1 = 0 by decide), hh_bind, if_pos rfl, y1, y2]
          have hf := hR_first (cuts := VS0) (sv := hz_svp VS0 NS0 NS1 NS2 IM0) (by omega) b2 (hI_U.R hs0 y3) m2 m3 (fun s _ => by have := hR_capb hs0 s; omega) (hR_pit hs0) (fun f _ => (hv.2.2.1 f).2) VP2 NP0 y.2.2.2.2.2.2.2.2.2
          have xp := hR_xPP hs0 y3 hf.1 w2
          rcases hres with ⟨g1, g2, g3, z, g4, g5, g6, g7⟩ | ⟨g1, -⟩
          · have sm := hR_same hs0 y3 hf.1 hf.2.2 g4 g5 g6 g7
            exact ⟨g2.symm, hs0, ⟨hQ_first _ _ _ _ VP2 _ (by omega) b2 q1, q2, q3⟩, g3.symm, (show 1 ≤ 2 by decide), fun _ => ⟨rfl, rfl, y3, hf.1, hf.2.1, w2, hf.2.2, sm.1, sm.2⟩, fun z => absurd (show 1 = 2 from z) (by decide)⟩
          · have k := hr.max xp.1
            omega
        · rw [m1, if_pos (show nI 0 = 0 by decide), hh_bind]
          obtain ⟨k1, k2, k3, k4⟩ := clash (fun y hy hy2 => m2 y hy.1 hy.2.1 (hPP_full hy (by omega)))
          rw [if_neg (show ¬ 2 = 1 by decide)]
          exact ⟨k1.symm, hs0, ⟨q1, hQ_find b2 NT0 LT0 IT0 q2, k4⟩, k2.symm, Nat.le_refl _, fun z => absurd (show 2 = 1 from z) (by decide), fun _ => k3⟩
    · rw [if_neg c0]
      by_cases c1 : VH0 = 1
      · rw [if_pos c1]
        obtain ⟨p1, p2, p3, p4, p5, p6, p7, p8, p9⟩ := hpl c1
        have xp := hR_xPP hs0 p3 p4 p6
        rcases hres with ⟨g1, g2, g3, z, g4, g5, g6, g7⟩ | ⟨g1, -⟩
        · have sm := hR_same hs0 p3 p4 p7 g4 g5 g6 g7
          exact ⟨g2.symm, hs0, ⟨q1, q2, q3⟩, by show VH0 = q.2.2.1; omega, hH2, fun _ => ⟨p1, p2, p3, p4, p5, p6, p7, sm.1, sm.2⟩, fun z => absurd (show VH0 = 2 from z) (by omega)⟩
        · have k := hr.max xp.1
          omega
      · rw [if_neg c1]
        have c2 : VH0 = 2 := by omega
        obtain ⟨B, v, f1, f2, f3, c, f4, f5, f6⟩ := hcl c2
        rcases hres with ⟨g1, -⟩ | ⟨g1, g2, g3, g4⟩
        · exact absurd f2 (noplan g1 v B f1 f3)
        · exact ⟨g2.symm, hs0, ⟨q1, q2, q3⟩, by show VH0 = q.2.2.1; omega, hH2, fun z => absurd (show VH0 = 1 from z) c1, fun _ => hR_found hs0 f1 f3 f2 f4 f5 hr g4⟩
  · unfold f_Model_run
    rw [if_neg hno, if_neg (show ¬ nI 1 ≤ 0 by decide)]
    exact ⟨rfl, h⟩
