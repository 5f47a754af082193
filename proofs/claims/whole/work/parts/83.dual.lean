/-! ===== one more, one less, without a way ===== -/
section HDUAL
variable {VM1 VM2 VM3 VM4 : Nat} {NM0 NM1 NM2 : Nat → Nat} {LM0 LM1 LM2 LM3 LM4 LM5 LM6 LM7 LM8 LM9 LM10 LM11 LS6 LS7 LS8 : Nat → Int64} {IM0 IM1 IS0 IY0 : Nat → Int32}
theorem hD_yes (hs0 : hI_S VM1 VM4 VM2 NM0 NM1 NM2 LM0 LM1 LM9 LM10 LM2 LM3 LS6 LS7 LS8 IS0 VM3 LM6 LM7 LM8 IY0 VM1 VM2 VM3 VM4 NM0 NM1 NM2 LM0 LM1 LM2 LM3 LM4 LM5 LM6 LM7 LM8 LM9 LM10 LM11 IM0 IM1) {cap' want' : Nat → Int} {x5 : Int32} {d : Nat → Nat → Int64} {CO : Nat → Int64} {r : Int64 × (Nat → Int64) × (Nat → Int64) × (Nat → Int32)} (h : hM_sent (VM1 + VM4) VM2 VM1 (hz_svp VM1 NM0 NM1 NM2 IM0) cap' want' NM2 (fun w => (LM11 w).toInt) (hI_u VM1 VM3 NM2 LM1 LM3 LM6 LM7 LM8 LM9 LM10 IM1 x5) d CO r) {X : Nat → Nat → Int} {w rr : Nat → Int} (hx : hPP (VM1 + VM4) VM2 VM1 (hz_svp VM1 NM0 NM1 NM2 IM0) cap' want' NM2 (fun w => (LS8 w).toInt) X) (hfull : ∀ f, f < VM2 → hcol X (VM1 + VM4) f = want' f) (ct : hq_cert (VM1 + VM4) VM2 VM1 (hz_svp VM1 NM0 NM1 NM2 IM0) (hI_u VM1 VM3 NM2 LM1 LM3 LM6 LM7 LM8 LM9 LM10 IM1 x5) X cap' w rr) (hw8 : hs want' VM2 ≤ 100000000) :
    r.1.toInt = hs want' VM2 ∧ (f_Model_total VM1 VM2 VM4 NM0 NM1 NM2 r.2.1 CO IM0).toInt = hcost (hI_u VM1 VM3 NM2 LM1 LM3 LM6 LM7 LM8 LM9 LM10 IM1 x5) X (VM1 + VM4) VM2 := by
  have hM := hPP_most (hR_mo hs0).2 hw8 hx
  have k := h.max hM
  have e : h2 X (VM1 + VM4) VM2 = hs want' VM2 := by
    rw [h2_cols]
    exact hs_congr hfull
  have hv : r.1.toInt = hs want' VM2 := by omega
  refine ⟨hv, ?_⟩
  rw [h.cost hs0]
  obtain ⟨w0, r0, cert0⟩ := h.cert
  obtain ⟨hPPx, q0, -⟩ := hn_all h.2.2.2.1
  have full0 := hPP_full hPPx (by rw [← q0, hv]; exact Int.le_refl _)
  have a := cert0.best hx.1 hx.2.1 (fun f hf => by rw [hfull f hf, full0 f hf])
  have b := ct.best hPPx.1 hPPx.2.1 (fun f hf => by rw [hfull f hf, full0 f hf])
  omega
theorem hD_no (hs0 : hI_S VM1 VM4 VM2 NM0 NM1 NM2 LM0 LM1 LM9 LM10 LM2 LM3 LS6 LS7 LS8 IS0 VM3 LM6 LM7 LM8 IY0 VM1 VM2 VM3 VM4 NM0 NM1 NM2 LM0 LM1 LM2 LM3 LM4 LM5 LM6 LM7 LM8 LM9 LM10 LM11 IM0 IM1) {cap' want' : Nat → Int} {u : Nat → Nat → Int} {d : Nat → Nat → Int64} {CO : Nat → Int64} {r : Int64 × (Nat → Int64) × (Nat → Int64) × (Nat → Int32)} (h : hM_sent (VM1 + VM4) VM2 VM1 (hz_svp VM1 NM0 NM1 NM2 IM0) cap' want' NM2 (fun w => (LM11 w).toInt) u d CO r) (hw8 : hs want' VM2 ≤ 100000000) (hno : ∀ y, hPP (VM1 + VM4) VM2 VM1 (hz_svp VM1 NM0 NM1 NM2 IM0) cap' want' NM2 (fun w => (LS8 w).toInt) y → (∀ f, f < VM2 → hcol y (VM1 + VM4) f = want' f) → False) : ¬ r.1.toInt = hs want' VM2 := by
  intro hv
  obtain ⟨hPPx, q0, -⟩ := hn_all h.2.2.2.1
  exact hno _ (hPP_most (hR_mo hs0).1 hw8 hPPx) (hPP_full hPPx (by rw [← q0, hv]; exact Int.le_refl _))
/-- cheaper ways only help -/
theorem hD_mono27 {VM3 : Nat} {y2 : Int64} {LM6 LM7 LM3 : Nat → Int64} {x2 : Nat} {x3 : Int32} {IM1 : Nat → Int32} {NM2 : Nat → Nat} {LM8 : Nat → Int64} (h2 : 0 ≤ y2.toInt ∧ y2.toInt ≤ 100000) (h6 : hv_r LM6 100000) (h7 : hv_r LM7 100000) (h3 : hv_r LM3 100000) (h8 : hv_r LM8 100000) (hy6 : VM3 ≤ 6) {k : Int64 → Nat → Int64} (hk : ∀ x x' w w', 0 ≤ x.toInt → x.toInt ≤ x'.toInt → x'.toInt ≤ 100000 → (k x w).toInt ≤ (k x' w').toInt) :
    ∀ (n : Nat) (x x' : Int64) (w : Nat), 0 ≤ x.toInt → x.toInt ≤ x'.toInt → x'.toInt ≤ 100000 → (f_Model_unit_h27 VM3 y2 LM6 LM7 LM3 x2 (-2) IM1 NM2 LM8 k n x w).toInt ≤ (f_Model_unit_h27 VM3 y2 LM6 LM7 LM3 x2 x3 IM1 NM2 LM8 k n x' w).toInt := by
  intro n
  induction n with
  | zero => exact fun x x' w a b c => hk _ _ _ _ a b c
  | succ n ih =>
    intro x x' w a b c
    rw [f_Model_unit_h27, f_Model_unit_h27]
    unfold f_Model_unit_h27B
    by_cases c0 : VM3 ≤ w
    · rw [if_pos c0, if_pos c0]
      exact hk _ _ _ _ a b c
    · rw [if_neg c0, if_neg c0]
      simp only [hh_bind]
      have a1 := hv_apart h2 (h6 w)
      have a2 := hv_apart (h7 w) (h3 x2)
      have a3 := hv_apart h2 (h7 w)
      have a4 := hv_apart (h6 w) (h3 x2)
      have a8 := h8 w
      generalize f_Model_apart y2 (LM6 w) = p1 at a1 ⊢
      generalize f_Model_apart (LM7 w) (LM3 x2) = p2 at a2 ⊢
      generalize f_Model_apart y2 (LM7 w) = p3 at a3 ⊢
      generalize f_Model_apart (LM6 w) (LM3 x2) = p4 at a4 ⊢
      have e1 : (p1 + LM8 w).toInt = p1.toInt + (LM8 w).toInt := h64_add (by omega) (by omega)
      have e2 : (p1 + LM8 w + p2).toInt = p1.toInt + (LM8 w).toInt + p2.toInt := by rw [h64_add (by omega) (by omega), e1]
      have e3 : (p3 + LM8 w).toInt = p3.toInt + (LM8 w).toInt := h64_add (by omega) (by omega)
      have e4 : (p3 + LM8 w + p4).toInt = p3.toInt + (LM8 w).toInt + p4.toInt := by rw [h64_add (by omega) (by omega), e3]
      generalize p1 + LM8 w + p2 = q1 at e2 ⊢
      generalize p3 + LM8 w + p4 = q2 at e4 ⊢
      rw [if_neg (show ¬ nI w = -2 from hv_m2 (by omega))]
      by_cases cb : IM1 (12 * w + NM2 x2) = 0
      · rw [if_pos cb]
        -- the lesser one first
        have key : ∀ z : Int64, x.toInt ≤ z.toInt ∨ q1.toInt ≤ z.toInt ∨ q2.toInt ≤ z.toInt → 0 ≤ z.toInt → z.toInt ≤ 100000 → ((if x ≤ q1 then (if x ≤ q2 then f_Model_unit_h27 VM3 y2 LM6 LM7 LM3 x2 (-2) IM1 NM2 LM8 k n x (w + 1) else f_Model_unit_h27 VM3 y2 LM6 LM7 LM3 x2 (-2) IM1 NM2 LM8 k n q2 (w + 1)) else (if q1 ≤ q2 then f_Model_unit_h27 VM3 y2 LM6 LM7 LM3 x2 (-2) IM1 NM2 LM8 k n q1 (w + 1) else f_Model_unit_h27 VM3 y2 LM6 LM7 LM3 x2 (-2) IM1 NM2 LM8 k n q2 (w + 1)))).toInt ≤ (f_Model_unit_h27 VM3 y2 LM6 LM7 LM3 x2 x3 IM1 NM2 LM8 k n z (w + 1)).toInt := by
          intro z hz z0 z1
          by_cases t1 : x ≤ q1
          · rw [if_pos t1]
            rw [h64_le] at t1
            by_cases t2 : x ≤ q2
            · rw [if_pos t2]
              rw [h64_le] at t2
              exact ih _ _ _ (by omega) (by omega) (by omega)
            · rw [if_neg t2]
              rw [h64_le] at t2
              exact ih _ _ _ (by omega) (by omega) (by omega)
          · rw [if_neg t1]
            rw [h64_le] at t1
            by_cases t2 : q1 ≤ q2
            · rw [if_pos t2]
              rw [h64_le] at t2
              exact ih _ _ _ (by omega) (by omega) (by omega)
            · rw [if_neg t2]
              rw [h64_le] at t2
              exact ih _ _ _ (by omega) (by omega) (by omega)
        generalize (if x ≤ q1 then (if x ≤ q2 then f_Model_unit_h27 VM3 y2 LM6 LM7 LM3 x2 (-2) IM1 NM2 LM8 k n x (w + 1) else f_Model_unit_h27 VM3 y2 LM6 LM7 LM3 x2 (-2) IM1 NM2 LM8 k n q2 (w + 1)) else (if q1 ≤ q2 then f_Model_unit_h27 VM3 y2 LM6 LM7 LM3 x2 (-2) IM1 NM2 LM8 k n q1 (w + 1) else f_Model_unit_h27 VM3 y2 LM6 LM7 LM3 x2 (-2) IM1 NM2 LM8 k n q2 (w + 1))) = lhs at key ⊢
        by_cases c1 : nI w = x3
        · rw [if_pos c1]
          exact key x' (Or.inl b) (by omega) c
        · rw [if_neg c1, if_pos cb]
          by_cases t1 : x' ≤ q1
          · rw [if_pos t1]
            by_cases t2 : x' ≤ q2
            · rw [if_pos t2]
              exact key x' (Or.inl b) (by omega) c
            · rw [if_neg t2]
              rw [h64_le] at t2
              exact key q2 (Or.inr (Or.inr (Int.le_refl _))) (by omega) (by omega)
          · rw [if_neg t1]
            rw [h64_le] at t1
            by_cases t2 : q1 ≤ q2
            · rw [if_pos t2]
              exact key q1 (Or.inr (Or.inl (Int.le_refl _))) (by omega) (by omega)
            · rw [if_neg t2]
              rw [h64_le] at t2
              exact key q2 (Or.inr (Or.inr (Int.le_refl _))) (by omega) (by omega)
      · rw [if_neg cb]
        by_cases c1 : nI w = x3
        · rw [if_pos c1]
          exact ih _ _ _ a b c
        · rw [if_neg c1, if_neg cb]
          exact ih _ _ _ a b c
theorem hD_mono (hs0 : hI_S VM1 VM4 VM2 NM0 NM1 NM2 LM0 LM1 LM9 LM10 LM2 LM3 LS6 LS7 LS8 IS0 VM3 LM6 LM7 LM8 IY0 VM1 VM2 VM3 VM4 NM0 NM1 NM2 LM0 LM1 LM2 LM3 LM4 LM5 LM6 LM7 LM8 LM9 LM10 LM11 IM0 IM1) (x5 : Int32) (s f : Nat) : hI_u VM1 VM3 NM2 LM1 LM3 LM6 LM7 LM8 LM9 LM10 IM1 (-2) s f ≤ hI_u VM1 VM3 NM2 LM1 LM3 LM6 LM7 LM8 LM9 LM10 IM1 x5 s f := by
  obtain ⟨-, ⟨b1, b2, b3, b4, b5, b6, b7⟩, h6, h8, hbits, hbars, hv⟩ := id hs0
  obtain ⟨v0, v1, v2, -, v3, -, -, v6, v7, v8, v9, v10, -⟩ := hv
  unfold hI_u f_Model_unit
  have hm : 0 ≤ (f_Model_metreOf VM1 LM1 LM9 s).toInt ∧ (f_Model_metreOf VM1 LM1 LM9 s).toInt ≤ 100000 := by
    unfold f_Model_metreOf
    by_cases c : VM1 ≤ s
    · rw [if_pos c]; exact v9 _
    · rw [if_neg c]; exact v1 _
  have ap := hv_apart hm (v3 f)
  refine hD_mono27 hm v6 v7 v3 v8 b3 (fun x x' w w' a b c => ?_) 7 _ _ 0 ap.1 (Int.le_refl _) ap.2
  unfold f_Model_unit_x27
  by_cases e : VM1 ≤ s
  · rw [if_pos e, if_pos e]
    have := v10 (s - VM1)
    rw [h64_add (by omega) (by omega), h64_add (by omega) (by omega)]
    omega
  · rw [if_neg e, if_neg e]
    exact b
/-- what a change of the plan is answered as -/
theorem hD_ans {ch due : Int64} {WM0 : Int64} {L13 L14 far : Nat → Int64} {bef : Nat → Int32} {x3 : Int32} (hch : (ch = -1 ∧ ¬ (f_Model_sendAll L13 L14 far bef).1 = due) ∨ (¬ ch = -1 ∧ (f_Model_sendAll L13 L14 far bef).1 = due ∧ ch = f_Model_total VM1 VM2 VM4 NM0 NM1 NM2 (f_Model_sendAll L13 L14 far bef).2.1 L14 IM0 - WM0)) :
    f_HaulFlows_partOfChange ch x3 = (f_Model_differs VM1 VM2 VM4 WM0 NM0 NM1 NM2 L13 L14 far IM0 bef due x3).1 := by
  unfold f_HaulFlows_partOfChange f_Model_differs
  rw [hh_bind]
  rcases hch with ⟨h1, h2⟩ | ⟨h1, h2, h3⟩
  · rw [if_pos h1, if_neg h2]
    by_cases c : x3 = nI 1
    · rw [if_pos c, if_pos c]
      rfl
    · rw [if_neg c, if_neg c]
      rfl
  · rw [if_neg h1, if_pos h2]
    by_cases c : x3 = nI 1
    · rw [if_pos c, if_pos c]
      rfl
    · rw [if_neg c, if_neg c]
      show ch = _
      rw [h3]
      rfl
theorem hD_cert (hs0 : hI_S VM1 VM4 VM2 NM0 NM1 NM2 LM0 LM1 LM9 LM10 LM2 LM3 LS6 LS7 LS8 IS0 VM3 LM6 LM7 LM8 IY0 VM1 VM2 VM3 VM4 NM0 NM1 NM2 LM0 LM1 LM2 LM3 LM4 LM5 LM6 LM7 LM8 LM9 LM10 LM11 IM0 IM1) {x5 : Int32} {LP0 LP1 LP2 LP3 : Nat → Int64} (hU : hI_U VM1 VM2 VM3 VM4 NM0 NM1 NM2 LM1 LM3 LM6 LM7 LM8 LM9 LM10 IM0 IM1 x5 LP0) {want' : Nat → Int} (hS : hk_S (VM1 + VM4) VM2 LP0 (hI_C VM1 NM0 LM0 LM4 LM5) want' LP1 LP2 LP3) (hw : hs want' VM2 ≤ 100000000) : hq_cert (VM1 + VM4) VM2 VM1 (hz_svp VM1 NM0 NM1 NM2 IM0) (hI_u VM1 VM3 NM2 LM1 LM3 LM6 LM7 LM8 LM9 LM10 IM1 x5) (hk_X LP1) (hI_C VM1 NM0 LM0 LM4 LM5) (fun f => (LP3 f).toInt) (fun s => (LP2 s).toInt) :=
  hR_cert (cuts := VM1) (hI_U.R hs0 hU) hS (fun s _ hc => by
    unfold hI_C
    rw [if_neg (by omega)]
    omega)
theorem hD_sum1 {F k : Nat} (hk : k < F) (W1 : Nat → Int) : hs (fun f => if f = k then W1 f + 1 else W1 f) F = hs W1 F + 1 := hs_upd1 W1 k 1 hk
/-- one more for a fill -/
theorem hD_more (hs0 : hI_S VM1 VM4 VM2 NM0 NM1 NM2 LM0 LM1 LM9 LM10 LM2 LM3 LS6 LS7 LS8 IS0 VM3 LM6 LM7 LM8 IY0 VM1 VM2 VM3 VM4 NM0 NM1 NM2 LM0 LM1 LM2 LM3 LM4 LM5 LM6 LM7 LM8 LM9 LM10 LM11 IM0 IM1) {LP0 LP1 LP2 LP3 : Nat → Int64} (hU : hI_U VM1 VM2 VM3 VM4 NM0 NM1 NM2 LM1 LM3 LM6 LM7 LM8 LM9 LM10 IM0 IM1 (-2) LP0) (hS : hk_S (VM1 + VM4) VM2 LP0 (hI_C VM1 NM0 LM0 LM4 LM5) (hI_w LM2) LP1 LP2 LP3) (hZ : hk_Z (VM1 + VM4) VM2 LP1 LP3) (hwks : hI_wks VM2 NM2 LM2 (fun w => (LS8 w).toInt)) {k : Nat} (hk : k < VM2) (LP4 : Nat → Int64) (IP0 IP1 : Nat → Int32)
    {d : Nat → Nat → Int64} {CO : Nat → Int64} {r : Int64 × (Nat → Int64) × (Nat → Int64) × (Nat → Int32)} (h : hM_sent (VM1 + VM4) VM2 VM1 (hz_svp VM1 NM0 NM1 NM2 IM0) (hI_C VM1 NM0 LM0 LM4 LM5) (fun f => if f = k then hI_w LM2 f + 1 else hI_w LM2 f) NM2 (fun w => (LM11 w).toInt) (hI_u VM1 VM3 NM2 LM1 LM3 LM6 LM7 LM8 LM9 LM10 IM1 (-2)) d CO r) :
    ((f_Plan_priceOfOneMore (VM1 + VM4) VM2 LP0 LP1 LP2 LP3 LP4 IP0 IP1 VM2 NM2 LM2 LS8 k).1 = -1 ∧ ¬ r.1.toInt = hs (hI_w LM2) VM2 + 1) ∨ (0 ≤ (f_Plan_priceOfOneMore (VM1 + VM4) VM2 LP0 LP1 LP2 LP3 LP4 IP0 IP1 VM2 NM2 LM2 LS8 k).1.toInt ∧ r.1.toInt = hs (hI_w LM2) VM2 + 1 ∧ (f_Plan_priceOfOneMore (VM1 + VM4) VM2 LP0 LP1 LP2 LP3 LP4 IP0 IP1 VM2 NM2 LM2 LS8 k).1.toInt = (f_Model_total VM1 VM2 VM4 NM0 NM1 NM2 r.2.1 CO IM0).toInt - hcost (hI_u VM1 VM3 NM2 LM1 LM3 LM6 LM7 LM8 LM9 LM10 IM1 (-2)) (hk_X LP1) (VM1 + VM4) VM2) := by
  obtain ⟨-, ⟨b1, b2, b3, b4, b5, b6, b7⟩, h6, h8, hbits, hbars, hv⟩ := id hs0
  have ws := hR_wsum hs0
  have e1 := hD_sum1 hk (hI_w LM2)
  have one : (1 : Int64).toInt = 1 := by decide
  have w12 := b7 k
  have sp := hR_spare hs0 w12
  -- the week's sum grows by one
  have wk1 : ∀ w, hs (fun f => if NM2 f = w then (if f = k then hI_w LM2 f + 1 else hI_w LM2 f) else 0) VM2 = hs (fun f => if NM2 f = w then hI_w LM2 f else 0) VM2 + (if w = NM2 k then 1 else 0) := by
    intro w
    by_cases c : w = NM2 k
    · rw [if_pos c, ← hs_upd1 (fun f => if NM2 f = w then hI_w LM2 f else 0) k 1 hk]
      refine hs_congr (fun f _ => ?_)
      by_cases cf : f = k
      · rw [if_pos (by rw [cf, c]), if_pos cf, if_pos cf, if_pos (by rw [cf, c])]
      · rw [if_neg cf, if_neg cf]
    · rw [if_neg c, Int.add_zero]
      refine hs_congr (fun f _ => ?_)
      by_cases cf : f = k
      · rw [if_neg (by rw [cf]; exact fun z => c z.symm), if_neg (by rw [cf]; exact fun z => c z.symm)]
      · rw [if_neg cf]
  unfold f_Plan_priceOfOneMore
  rw [hh_bind]
  by_cases c : 1 ≤ f_Site_weekSpare VM2 NM2 LM2 LS8 (NM2 k)
  · rw [if_pos c, hh_bind]
    rw [h64_le, one, sp.1] at c
    have hst : 12 + k < VM1 + VM4 ∨ (12 ≤ 12 + k ∧ 12 + k < 12 + VM2) := Or.inr ⟨by omega, by omega⟩
    have ho := hk_search (show VM1 + VM4 ≤ 12 by omega) b2 hS.1 hst LP4 IP0 IP1
    generalize f_Plan_search (VM1 + VM4) VM2 LP0 LP1 LP2 LP3 LP4 IP0 IP1 (12 + k) = y at ho ⊢
    rcases ho with ⟨o1, ⟨t, o2⟩, o3⟩ | ⟨j, t, o1, o2, o3⟩
    · rw [o1, if_neg (by decide)]
      refine Or.inl ⟨rfl, ?_⟩
      rw [← e1]
      refine hD_no hs0 h (by omega) (fun z z1 z2 => ?_)
      have kk := hk_none (show VM1 + VM4 ≤ 12 by omega) b2 hS o2 o3 (y := z) (cy := hI_C VM1 NM0 LM0 LM4 LM5) (fun s f a1 a2 => ⟨(z1.1 s f a1 a2).1, fun q => (z1.1 s f a1 a2).2 (fun hsv => (((hI_U.R hs0 hU).1 s f a1 a2).1 hsv).1 (Classical.byContradiction q))⟩) (fun s a1 => by
        by_cases q : s < VM1
        · exact z1.2.1 s a1 q
        · have bb := (hn_small (x := z) (s := s) (f := 0) (fun s f a b => (z1.1 s f a b).1) z1.2.2.1 a1).1
          unfold hI_C
          rw [if_neg q]
          omega)
      have hdst : ¬ y.2.2.1 (12 + k) = 0 := by
        refine o3 (12 + k) (by omega) (fun q => ?_)
        have := o2.1
        rw [q, hk_far] at this
        omega
      have q1 : hs (fun s => (if y.2.2.1 s = 0 then (0 : Int) else 1) * (hI_C VM1 NM0 LM0 LM4 LM5 s - hI_C VM1 NM0 LM0 LM4 LM5 s)) (VM1 + VM4) = 0 := hs_zero (fun s _ => by show (if y.2.2.1 s = 0 then (0 : Int) else 1) * (hI_C VM1 NM0 LM0 LM4 LM5 s - hI_C VM1 NM0 LM0 LM4 LM5 s) = 0; rw [Int.sub_self, Int.mul_zero])
      have q2 : hs (fun f => (if y.2.2.1 (12 + f) = 0 then (0 : Int) else 1) * (hcol z (VM1 + VM4) f - hI_w LM2 f)) VM2 = 1 := by
        refine (hs_congr (fun f hf => ?_)).trans (hs_one (n := VM2) (k := k) 1 hk)
        show (if y.2.2.1 (12 + f) = 0 then (0 : Int) else 1) * (hcol z (VM1 + VM4) f - hI_w LM2 f) = if f = k then 1 else 0
        rw [z2 f hf]
        show (if y.2.2.1 (12 + f) = 0 then (0 : Int) else 1) * ((if f = k then hI_w LM2 f + 1 else hI_w LM2 f) - hI_w LM2 f) = if f = k then 1 else 0
        by_cases cf : f = k
        · rw [if_pos cf, if_pos cf, cf, if_neg hdst]
          omega
        · rw [if_neg cf, if_neg cf, Int.sub_self, Int.mul_zero]
      omega
    · rw [o2, if_pos (nI_pos' (show j < 2 ^ 31 by omega)), nI_clamp (show j < 2 ^ 31 by omega)]
      have he : hk_end (VM1 + VM4) VM2 LP0 LP1 LP2 LP3 (12 + k) j t y.2.2.1 y.2.1 y.2.2.2 := ⟨o1, o3⟩
      have hrd := hk_raise (show VM1 + VM4 ≤ 12 by omega) b2 hS.1 he hst
      have dist := he.dist (show VM1 + VM4 ≤ 12 by omega) b2 hS.1 hst
      obtain ⟨m1, m2, m3, m4⟩ := hk_round (show VM1 + VM4 ≤ 12 by omega) b2 (fun s _ => by have := hR_capb hs0 s; omega) hZ.1 hk hS he hrd (need := 1) (by rw [one]; omega)
      rw [one] at m2
      have em : (f_Plan_bring LP1 y.2.2.2 k j 1).1.toInt = 1 := by omega
      rw [em] at m3
      generalize (f_Plan_bring LP1 y.2.2.2 k j 1).2 = L' at *
      have m3' : hk_S (VM1 + VM4) VM2 LP0 (hI_C VM1 NM0 LM0 LM4 LM5) (fun f => if f = k then hI_w LM2 f + 1 else hI_w LM2 f) L' (f_Plan_raiseWorths (VM1 + VM4) VM2 LP2 LP3 y.2.1 (y.2.1 j / 32)).1 (f_Plan_raiseWorths (VM1 + VM4) VM2 LP2 LP3 y.2.1 (y.2.1 j / 32)).2 := by
        refine ⟨m3.1, m3.2.1, fun f hf => ?_⟩
        rw [m3.2.2 f hf]
        show hI_w LM2 f + (if f = k then 1 else 0) = if f = k then hI_w LM2 f + 1 else hI_w LM2 f
        by_cases cf : f = k
        · rw [if_pos cf, if_pos cf]
        · rw [if_neg cf, if_neg cf]; omega
      have hcX : ∀ f, f < VM2 → hcol (hk_X L') (VM1 + VM4) f = if f = k then hI_w LM2 f + 1 else hI_w LM2 f := m3'.2.2
      have ctX' := hD_cert hs0 hU m3' (by omega)
      have hDr := hk_raised (show VM1 + VM4 ≤ 12 by omega) b2 hS.1 he hst hrd
      have ctX := hD_cert hs0 hU (want' := hI_w LM2) ⟨hDr, hS.2.1, hS.2.2⟩ (by omega)
      have hR := hI_U.R hs0 hU
      have xP : hPP (VM1 + VM4) VM2 VM1 (hz_svp VM1 NM0 NM1 NM2 IM0) (hI_C VM1 NM0 LM0 LM4 LM5) (fun f => if f = k then hI_w LM2 f + 1 else hI_w LM2 f) NM2 (fun w => (LS8 w).toInt) (hk_X L') := by
        refine ⟨fun s f a b => hR_sv hR m3' a b, fun s a _ => hR_row m3' a, fun f hf => by rw [m3'.2.2 f hf]; exact Int.le_refl _, fun w hw => ?_⟩
        rw [hR_wkfull m3'.2.2 w, wk1 w]
        have a := hwks w hw
        have a' : hs (fun f => if NM2 f = w then hI_w LM2 f else 0) VM2 ≤ (LS8 w).toInt := a
        by_cases cw : w = NM2 k
        · rw [if_pos cw]
          show _ ≤ (LS8 w).toInt
          rw [cw]
          omega
        · rw [if_neg cw]
          show _ ≤ (LS8 w).toInt
          omega
      have yes := hD_yes hs0 h xP m3'.2.2 ctX' (by omega)
      -- the costs differ by the fill's raised worth
      have l1 := ctX.le (cy := hI_C VM1 NM0 LM0 LM4 LM5) xP.1 xP.2.1
      have l2 := ctX'.le (cy := hI_C VM1 NM0 LM0 LM4 LM5) (y := hk_X LP1) (fun s f a b => hR_sv hR hS a b) (fun s a _ => hR_row hS a)
      have zc : hs (fun s => ((f_Plan_raiseWorths (VM1 + VM4) VM2 LP2 LP3 y.2.1 (y.2.1 j / 32)).1 s).toInt * (hI_C VM1 NM0 LM0 LM4 LM5 s - hI_C VM1 NM0 LM0 LM4 LM5 s)) (VM1 + VM4) = 0 := hs_zero (fun s _ => by show _ * (hI_C VM1 NM0 LM0 LM4 LM5 s - hI_C VM1 NM0 LM0 LM4 LM5 s) = 0; rw [Int.sub_self, Int.mul_zero])
      have g1 : hs (fun f => ((f_Plan_raiseWorths (VM1 + VM4) VM2 LP2 LP3 y.2.1 (y.2.1 j / 32)).2 f).toInt * (hcol (hk_X L') (VM1 + VM4) f - hcol (hk_X LP1) (VM1 + VM4) f)) VM2 = ((f_Plan_raiseWorths (VM1 + VM4) VM2 LP2 LP3 y.2.1 (y.2.1 j / 32)).2 k).toInt := by
        refine (hs_congr (fun f hf => ?_)).trans (hs_one (n := VM2) (k := k) _ hk)
        show ((f_Plan_raiseWorths (VM1 + VM4) VM2 LP2 LP3 y.2.1 (y.2.1 j / 32)).2 f).toInt * (hcol (hk_X L') (VM1 + VM4) f - hcol (hk_X LP1) (VM1 + VM4) f) = if f = k then ((f_Plan_raiseWorths (VM1 + VM4) VM2 LP2 LP3 y.2.1 (y.2.1 j / 32)).2 k).toInt else 0
        rw [hcX f hf, hS.2.2 f hf]
        by_cases cf : f = k
        · rw [if_pos cf, if_pos cf, cf, show hI_w LM2 k + 1 - hI_w LM2 k = 1 by omega, Int.mul_one]
        · rw [if_neg cf, if_neg cf, Int.sub_self, Int.mul_zero]
      have g2 : hs (fun f => ((f_Plan_raiseWorths (VM1 + VM4) VM2 LP2 LP3 y.2.1 (y.2.1 j / 32)).2 f).toInt * (hcol (hk_X LP1) (VM1 + VM4) f - hcol (hk_X L') (VM1 + VM4) f)) VM2 = - ((f_Plan_raiseWorths (VM1 + VM4) VM2 LP2 LP3 y.2.1 (y.2.1 j / 32)).2 k).toInt := by
        refine (hs_congr (fun f hf => ?_)).trans (hs_one (n := VM2) (k := k) _ hk)
        show ((f_Plan_raiseWorths (VM1 + VM4) VM2 LP2 LP3 y.2.1 (y.2.1 j / 32)).2 f).toInt * (hcol (hk_X LP1) (VM1 + VM4) f - hcol (hk_X L') (VM1 + VM4) f) = if f = k then - ((f_Plan_raiseWorths (VM1 + VM4) VM2 LP2 LP3 y.2.1 (y.2.1 j / 32)).2 k).toInt else 0
        rw [hcX f hf, hS.2.2 f hf]
        by_cases cf : f = k
        · rw [if_pos cf, if_pos cf, cf, show hI_w LM2 k - (hI_w LM2 k + 1) = -1 by omega, Int.mul_neg, Int.mul_one]
        · rw [if_neg cf, if_neg cf, Int.sub_self, Int.mul_zero]
      have up := hrd.2 k hk
      have st0 : (y.2.1 (12 + k)).toInt = 0 := he.2.2.2.1.1
      have upk : hk_up ((y.2.1 j).toInt / 32) y.2.1 (12 + k) = (y.2.1 j).toInt / 32 := by
        unfold hk_up
        rw [st0]
        by_cases cD : (0 : Int) / 32 < (y.2.1 j).toInt / 32
        · rw [if_pos cD]; omega
        · rw [if_neg cD]; omega
      have kw := hS.1.2.2 k hk
      have pst : hk_p LP2 LP3 (12 + k) = (LP3 k).toInt := by
        unfold hk_p
        rw [if_neg (by omega), show 12 + k - 12 = k by omega]
      have ej : (y.2.1 j / 32).toInt = (y.2.1 j).toInt / 32 := by rw [h64_div (dist.2.2.1 j (by omega)) (by rw [hk_32]; omega), hk_32]
      have ea : (LP3 k + y.2.1 j / 32).toInt = (LP3 k).toInt + (y.2.1 j).toInt / 32 := by rw [h64_add (by omega) (by omega), ej]
      refine Or.inr ⟨?_, ?_, ?_⟩
      · show 0 ≤ (LP3 k + y.2.1 j / 32).toInt
        omega
      · rw [yes.1]; exact e1
      · show (LP3 k + y.2.1 j / 32).toInt = _
        rw [yes.2]
        omega
  · rw [if_neg c]
    rw [h64_le, one, sp.1] at c
    refine Or.inl ⟨rfl, ?_⟩
    rw [← e1]
    refine hD_no hs0 h (by omega) (fun z z1 z2 => ?_)
    have a := z1.2.2.2 (NM2 k) w12
    rw [hR_wkfull z2 (NM2 k), wk1, if_pos rfl] at a
    have a' : hs (fun f => if NM2 f = NM2 k then hI_w LM2 f else 0) VM2 + 1 ≤ (LS8 (NM2 k)).toInt := a
    omega
end HDUAL
