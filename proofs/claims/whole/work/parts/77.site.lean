/-! ===== the site's numbers ===== -/
section HSITE
variable {VM1 VM2 VM3 VM4 : Nat} {NM0 NM1 NM2 : Nat → Nat} {LM0 LM1 LM2 LM3 LM4 LM5 LM6 LM7 LM8 LM9 LM10 LM11 LS6 LS7 LS8 : Nat → Int64} {IM0 IM1 IS0 IY0 : Nat → Int32}
theorem hR_cap (hs0 : hI_S VM1 VM4 VM2 NM0 NM1 NM2 LM0 LM1 LM9 LM10 LM2 LM3 LS6 LS7 LS8 IS0 VM3 LM6 LM7 LM8 IY0 VM1 VM2 VM3 VM4 NM0 NM1 NM2 LM0 LM1 LM2 LM3 LM4 LM5 LM6 LM7 LM8 LM9 LM10 LM11 IM0 IM1) (s : Nat) : (hk_cp VM1 NM0 LM0 LS6 LS7 s).toInt = hI_C VM1 NM0 LM0 LM4 LM5 s := by
  show (f_Site_capacity VM1 NM0 LM0 LS6 LS7 s).toInt = _
  unfold f_Site_capacity hI_C
  by_cases c : VM1 ≤ s
  · rw [if_pos c, if_neg (by omega)]
    decide
  · rw [if_neg c, if_pos (by omega), hh_bind, hy_gives hs0.2.2.2.2.2.2 hs0.2.2.1 hs0.2.1.2.2.2.2.1]
theorem hR_capb (hs0 : hI_S VM1 VM4 VM2 NM0 NM1 NM2 LM0 LM1 LM9 LM10 LM2 LM3 LS6 LS7 LS8 IS0 VM3 LM6 LM7 LM8 IY0 VM1 VM2 VM3 VM4 NM0 NM1 NM2 LM0 LM1 LM2 LM3 LM4 LM5 LM6 LM7 LM8 LM9 LM10 LM11 IM0 IM1) (s : Nat) : 0 ≤ hI_C VM1 NM0 LM0 LM4 LM5 s ∧ hI_C VM1 NM0 LM0 LM4 LM5 s ≤ 1099511627776 := by
  unfold hI_C
  have g := hv_gives (NM0 := NM0) hs0.2.2.2.2.2.2 hs0.2.1.2.2.2.2.1 s
  by_cases c : s < VM1
  · rw [if_pos c]; omega
  · rw [if_neg c]; omega
theorem hR_wsum (hs0 : hI_S VM1 VM4 VM2 NM0 NM1 NM2 LM0 LM1 LM9 LM10 LM2 LM3 LS6 LS7 LS8 IS0 VM3 LM6 LM7 LM8 IY0 VM1 VM2 VM3 VM4 NM0 NM1 NM2 LM0 LM1 LM2 LM3 LM4 LM5 LM6 LM7 LM8 LM9 LM10 LM11 IM0 IM1) : hs (hI_w LM2) VM2 ≤ 8000000 ∧ 0 ≤ hs (hI_w LM2) VM2 := by
  have h2 := hs0.2.2.2.2.2.2.2.2.1
  have b2 := hs0.2.1.2.1
  have k : hs (hI_w LM2) VM2 ≤ hs (fun _ => (1000000 : Int)) VM2 := hs_le (fun f _ => (h2 f).2)
  rw [hs_const] at k
  exact ⟨by omega, hs_nn (fun f _ => (h2 f).1)⟩
theorem hR_pit (hs0 : hI_S VM1 VM4 VM2 NM0 NM1 NM2 LM0 LM1 LM9 LM10 LM2 LM3 LS6 LS7 LS8 IS0 VM3 LM6 LM7 LM8 IY0 VM1 VM2 VM3 VM4 NM0 NM1 NM2 LM0 LM1 LM2 LM3 LM4 LM5 LM6 LM7 LM8 LM9 LM10 LM11 IM0 IM1) : ∀ s, s < VM1 + VM4 → VM1 ≤ s → hs (hI_w LM2) VM2 < hI_C VM1 NM0 LM0 LM4 LM5 s := by
  intro s _ hc
  have := (hR_wsum hs0).1
  unfold hI_C
  rw [if_neg (by omega)]
  omega
theorem hR_unit (hs0 : hI_S VM1 VM4 VM2 NM0 NM1 NM2 LM0 LM1 LM9 LM10 LM2 LM3 LS6 LS7 LS8 IS0 VM3 LM6 LM7 LM8 IY0 VM1 VM2 VM3 VM4 NM0 NM1 NM2 LM0 LM1 LM2 LM3 LM4 LM5 LM6 LM7 LM8 LM9 LM10 LM11 IM0 IM1) {x6 x5 : Int32} (hx : ∀ w, w < 6 → (nI w = x6 ↔ nI w = x5)) (s f : Nat) : hk_un VM1 NM2 LM1 LM9 LM10 LM3 VM3 LM6 LM7 LM8 IY0 x6 s f = f_Model_unit VM1 VM3 NM2 LM1 LM3 LM6 LM7 LM8 LM9 LM10 IM1 s f x5 := hy_unit hs0.2.2.2.2.2.2 hs0.2.1.2.2.1 hs0.2.1.2.2.2.2.2.2 hs0.2.2.2.2.2.1 hx s f
theorem hI_U.R (hs0 : hI_S VM1 VM4 VM2 NM0 NM1 NM2 LM0 LM1 LM9 LM10 LM2 LM3 LS6 LS7 LS8 IS0 VM3 LM6 LM7 LM8 IY0 VM1 VM2 VM3 VM4 NM0 NM1 NM2 LM0 LM1 LM2 LM3 LM4 LM5 LM6 LM7 LM8 LM9 LM10 LM11 IM0 IM1) {x5 : Int32} {LP0 : Nat → Int64} (h : hI_U VM1 VM2 VM3 VM4 NM0 NM1 NM2 LM1 LM3 LM6 LM7 LM8 LM9 LM10 IM0 IM1 x5 LP0) : hR_U (VM1 + VM4) VM2 (hz_svp VM1 NM0 NM1 NM2 IM0) (hI_u VM1 VM3 NM2 LM1 LM3 LM6 LM7 LM8 LM9 LM10 IM1 x5) LP0 := by
  refine ⟨fun s f h1 h2 => ⟨fun hsv => ?_, fun hsv => ?_⟩, h.2.1, h.2.2⟩
  · have k := h.1 s f h1 h2
    rw [if_neg hsv] at k
    have u := hv_unit (VM1 := VM1) (VM3 := VM3) (NM2 := NM2) (IM1 := IM1) hs0.2.2.2.2.2.2 s f x5
    refine ⟨fun z => ?_, by rw [k]; rfl⟩
    rw [← k, z, hk_m1] at u
    omega
  · have k := h.1 s f h1 h2
    have z : f_Model_serves VM1 NM0 NM1 NM2 IM0 s f = 0 := Classical.byContradiction hsv
    rw [if_pos z] at k
    exact k
/-- no plan at all, by the site's own words -/
def hR_none (n F cuts : Nat) (sv : Nat → Nat → Prop) (cap want : Nat → Int) : Prop := ∀ y : Nat → Nat → Int, (∀ s f, s < n → f < F → 0 ≤ y s f ∧ (¬ sv s f → y s f = 0)) → (∀ s, s < n → s < cuts → hrow y F s ≤ cap s) → (∀ f, f < F → hcol y n f = want f) → False
theorem hR_make (hs0 : hI_S VM1 VM4 VM2 NM0 NM1 NM2 LM0 LM1 LM9 LM10 LM2 LM3 LS6 LS7 LS8 IS0 VM3 LM6 LM7 LM8 IY0 VM1 VM2 VM3 VM4 NM0 NM1 NM2 LM0 LM1 LM2 LM3 LM4 LM5 LM6 LM7 LM8 LM9 LM10 LM11 IM0 IM1) {x6 x5 : Int32} (hx : ∀ w, w < 6 → (nI w = x6 ↔ nI w = x5)) (LP0 LP1 LP2 LP3 LP4 : Nat → Int64) (IP0 IP1 : Nat → Int32) :
    ∃ r, f_Plan_makeCheapest LP0 LP1 LP2 LP3 LP4 IP0 IP1 VM1 VM4 VM2 NM0 NM1 NM2 LM0 LM1 LM9 LM10 LM2 LM3 LS6 LS7 IS0 VM3 LM6 LM7 LM8 IY0 x6 = r ∧ r.2.1 = VM1 + VM4 ∧ r.2.2.1 = VM2 ∧ hI_U VM1 VM2 VM3 VM4 NM0 NM1 NM2 LM1 LM3 LM6 LM7 LM8 LM9 LM10 IM0 IM1 x5 r.2.2.2.1 ∧
      ((r.1 = nI 1 ∧ hk_S (VM1 + VM4) VM2 r.2.2.2.1 (hI_C VM1 NM0 LM0 LM4 LM5) (hI_w LM2) r.2.2.2.2.1 r.2.2.2.2.2.1 r.2.2.2.2.2.2.1 ∧ hk_Z (VM1 + VM4) VM2 r.2.2.2.2.1 r.2.2.2.2.2.2.1) ∨ (r.1 = nI 0 ∧ hR_none (VM1 + VM4) VM2 VM1 (hz_svp VM1 NM0 NM1 NM2 IM0) (hI_C VM1 NM0 LM0 LM4 LM5) (hI_w LM2))) := by
  obtain ⟨-, ⟨b1, b2, b3, b4, b5, b6, b7⟩, h6, h8, hbits, hbars, hv⟩ := id hs0
  obtain ⟨r, r0, r1, r2, r3, r8, r4⟩ := hk_make (VS0 := VM1) (VS1 := VM4) (VS2 := VM2) (NS0 := NM0) (NS1 := NM1) (NS2 := NM2) (LS0 := LM0) (LS1 := LM1) (LS2 := LM9) (LS3 := LM10) (LS5 := LM3) (LS6 := LS6) (LS7 := LS7) (IS0 := IS0) (VY0 := VM3) (LY0 := LM6) (LY1 := LM7) (LY2 := LM8) (IY0 := IY0) (x1 := x6) (LS4 := LM2) b2 (by omega) (fun f _ => hv.2.2.1 f) (fun s _ => by rw [hR_cap hs0]; have := hR_capb hs0 s; omega) (fun s f _ _ => by
    rw [hR_unit hs0 hx]
    exact hv_unit hv s f x5) LP0 LP1 LP2 LP3 LP4 IP0 IP1
  have eC : (fun s => (hk_cp VM1 NM0 LM0 LS6 LS7 s).toInt) = hI_C VM1 NM0 LM0 LM4 LM5 := funext (hR_cap hs0)
  have eW : (fun f => (LM2 f).toInt) = hI_w LM2 := rfl
  rw [eC, eW] at r4
  have hU : hI_U VM1 VM2 VM3 VM4 NM0 NM1 NM2 LM1 LM3 LM6 LM7 LM8 LM9 LM10 IM0 IM1 x5 r.2.2.2.1 := by
    refine ⟨fun s f h1 h2 => ?_, fun s c h1 h2 h3 => ?_, r8⟩
    · rw [r3 s f (by omega) (by omega)]
      have es : hk_sv VM1 NM0 NM1 NM2 IS0 s f = f_Model_serves VM1 NM0 NM1 NM2 IM0 s f := hy_serves hbits b5 s (by omega)
      by_cases e : f_Model_serves VM1 NM0 NM1 NM2 IM0 s f = 0
      · rw [if_pos e, if_neg (fun z => z.2.2 (es.trans e))]
      · rw [if_neg e, if_pos ⟨Or.inl h1, h2, fun z => e (es.symm.trans z)⟩]
        exact hR_unit hs0 hx s f
    · rw [r3 s c (by omega) (by omega), if_neg (by omega)]
  refine ⟨r, r0, r1, r2, hU, ?_⟩
  rcases r4 with k | ⟨k1, k2⟩
  · exact Or.inl k
  · refine Or.inr ⟨k1, fun y y1 y2 y3 => k2 y (fun s f h1 h2 => ⟨(y1 s f h1 h2).1, fun z => (y1 s f h1 h2).2 (fun q => ?_)⟩) (fun s h1 => ?_) y3⟩
    · exact (((hI_U.R hs0 hU).1 s f h1 h2).1 q).1 z
    · by_cases c : s < VM1
      · exact y2 s h1 c
      · have a := hR_pit hs0 s h1 (by omega)
        have b := (hn_small (x := y) (s := s) (f := 0) (fun s f a b => (y1 s f a b).1) (fun f hf => by rw [y3 f hf]; exact Int.le_refl _) h1).1
        omega
theorem hR_spare10 (hs0 : hI_S VM1 VM4 VM2 NM0 NM1 NM2 LM0 LM1 LM9 LM10 LM2 LM3 LS6 LS7 LS8 IS0 VM3 LM6 LM7 LM8 IY0 VM1 VM2 VM3 VM4 NM0 NM1 NM2 LM0 LM1 LM2 LM3 LM4 LM5 LM6 LM7 LM8 LM9 LM10 LM11 IM0 IM1) {w : Nat} : ∀ (m f : Nat) (acc : Int64), VM2 - f < m → f ≤ VM2 → -100000000 ≤ acc.toInt + hs (fun f => if NM2 f = w then hI_w LM2 f else 0) f ∧ acc.toInt ≤ 1099511627776 → (f_Site_weekSpare_h10 VM2 NM2 w LM2 f_Site_weekSpare_x10 m acc f).toInt = acc.toInt + hs (fun f => if NM2 f = w then hI_w LM2 f else 0) f - hs (fun f => if NM2 f = w then hI_w LM2 f else 0) VM2 := by
  obtain ⟨-, ⟨b1, b2, b3, b4, b5, b6, b7⟩, h6, h8, hbits, hbars, hv⟩ := id hs0
  have bnd : ∀ k, k ≤ VM2 → 0 ≤ hs (fun f => if NM2 f = w then hI_w LM2 f else 0) k ∧ hs (fun f => if NM2 f = w then hI_w LM2 f else 0) k ≤ 1200000000000000 := fun k hk => hw_step (n := VM2) (fun i _ => by
    show 0 ≤ (if NM2 i = w then hI_w LM2 i else 0) ∧ (if NM2 i = w then hI_w LM2 i else 0) ≤ 100000000000000
    have := hv.2.2.1 i
    unfold hI_w
    by_cases c : NM2 i = w
    · rw [if_pos c]; omega
    · rw [if_neg c]; omega) hk (by omega)
  intro m
  induction m with
  | zero => exact fun f acc h => absurd h (Nat.not_lt_zero _)
  | succ m ih =>
    intro f acc hm hf hb
    rw [f_Site_weekSpare_h10]
    unfold f_Site_weekSpare_h10B
    have bf := bnd f hf
    by_cases c : VM2 ≤ f
    · rw [if_pos c]
      have e : f = VM2 := by omega
      subst e
      show acc.toInt = _
      omega
    · rw [if_neg c]
      have st : hs (fun f => if NM2 f = w then hI_w LM2 f else 0) (f + 1) = hs (fun f => if NM2 f = w then hI_w LM2 f else 0) f + (if NM2 f = w then hI_w LM2 f else 0) := rfl
      have hl := hv.2.2.1 f
      by_cases e : NM2 f = w
      · rw [if_pos e] at st ⊢
        have st' : hs (fun f => if NM2 f = w then hI_w LM2 f else 0) (f + 1) = hs (fun f => if NM2 f = w then hI_w LM2 f else 0) f + (LM2 f).toInt := st
        have sb : (acc - LM2 f).toInt = acc.toInt - (LM2 f).toInt := h64_sub (by omega) (by omega)
        rw [ih (f + 1) _ (by omega) (by omega) (by omega), sb]
        omega
      · rw [if_neg e] at st ⊢
        rw [ih (f + 1) _ (by omega) (by omega) (by omega)]
        omega
theorem hR_spare (hs0 : hI_S VM1 VM4 VM2 NM0 NM1 NM2 LM0 LM1 LM9 LM10 LM2 LM3 LS6 LS7 LS8 IS0 VM3 LM6 LM7 LM8 IY0 VM1 VM2 VM3 VM4 NM0 NM1 NM2 LM0 LM1 LM2 LM3 LM4 LM5 LM6 LM7 LM8 LM9 LM10 LM11 IM0 IM1) {w : Nat} (hw : w < 12) : (f_Site_weekSpare VM2 NM2 LM2 LS8 w).toInt = (LS8 w).toInt - hs (fun f => if NM2 f = w then hI_w LM2 f else 0) VM2 ∧ 0 ≤ (LS8 w).toInt ∧ (LS8 w).toInt ≤ 1099511627776 := by
  obtain ⟨-, -, h6, h8, hbits, hbars, hv⟩ := id hs0
  have b : 0 ≤ (LS8 w).toInt ∧ (LS8 w).toInt ≤ 1099511627776 := by
    have k := hv.2.2.2.2.2.2.2.2.2.2.2.2 w hw
    have z : (1099511627776 : Int64).toInt = 1099511627776 := by decide
    rcases h8 w hw with e | e
    · rw [e]; omega
    · rw [e.1, z]; omega
  refine ⟨?_, b⟩
  have z : hs (fun f => if NM2 f = w then hI_w LM2 f else 0) 0 = 0 := rfl
  have k := hR_spare10 hs0 (w := w) 9 0 (LS8 w) (by have := hs0.2.1.2.1; omega) (Nat.zero_le _) (by rw [z]; omega)
  rw [z] at k
  show (f_Site_weekSpare_h10 VM2 NM2 w LM2 f_Site_weekSpare_x10 9 (LS8 w) 0).toInt = _
  rw [k]
  omega
theorem hR_suff (hs0 : hI_S VM1 VM4 VM2 NM0 NM1 NM2 LM0 LM1 LM9 LM10 LM2 LM3 LS6 LS7 LS8 IS0 VM3 LM6 LM7 LM8 IY0 VM1 VM2 VM3 VM4 NM0 NM1 NM2 LM0 LM1 LM2 LM3 LM4 LM5 LM6 LM7 LM8 LM9 LM10 LM11 IM0 IM1) : (f_Site_weeksSuffice VM2 NM2 LM2 LS8 = 0 ∧ ∃ w, w < 12 ∧ (LS8 w).toInt < hs (fun f => if NM2 f = w then hI_w LM2 f else 0) VM2) ∨ (¬ f_Site_weeksSuffice VM2 NM2 LM2 LS8 = 0 ∧ hI_wks VM2 NM2 LM2 (fun w => (LS8 w).toInt)) := by
  have gen : ∀ (m w : Nat), 12 - w < m → w ≤ 12 → (∀ w', w' < w → hs (fun f => if NM2 f = w' then hI_w LM2 f else 0) VM2 ≤ (LS8 w').toInt) → (f_Site_weeksSuffice_h2 VM2 NM2 LM2 LS8 f_Site_weeksSuffice_x2 m w = 0 ∧ ∃ w, w < 12 ∧ (LS8 w).toInt < hs (fun f => if NM2 f = w then hI_w LM2 f else 0) VM2) ∨ (¬ f_Site_weeksSuffice_h2 VM2 NM2 LM2 LS8 f_Site_weeksSuffice_x2 m w = 0 ∧ hI_wks VM2 NM2 LM2 (fun w => (LS8 w).toInt)) := by
    intro m
    induction m with
    | zero => exact fun w h => absurd h (Nat.not_lt_zero _)
    | succ m ih =>
      intro w hm hw h
      rw [f_Site_weeksSuffice_h2]
      unfold f_Site_weeksSuffice_h2B
      by_cases c : 12 ≤ w
      · rw [if_pos c]
        exact Or.inr ⟨by show ¬ nI 1 = 0; decide, fun w' hw' => h w' (by omega)⟩
      · rw [if_neg c, hh_bind]
        have k := hR_spare hs0 (show w < 12 by omega)
        by_cases d : 0 ≤ f_Site_weekSpare VM2 NM2 LM2 LS8 w
        · rw [if_pos d]
          rw [h64_le, h64_0, k.1] at d
          refine ih (w + 1) (by omega) (by omega) (fun w' hw' => ?_)
          by_cases e : w' = w
          · subst e; omega
          · exact h w' (by omega)
        · rw [if_neg d]
          rw [h64_le, h64_0, k.1] at d
          exact Or.inl ⟨by decide, w, by omega, by omega⟩
  exact gen 13 0 (by omega) (Nat.zero_le _) (fun w' h => absurd h (Nat.not_lt_zero _))
theorem hR_wkfull {n F : Nat} {wk : Nat → Nat} {x : Nat → Nat → Int} {want : Nat → Int} (h : ∀ f, f < F → hcol x n f = want f) (w : Nat) : hwk wk x n F w = hs (fun f => if wk f = w then want f else 0) F := hs_congr (fun f hf => by rw [h f hf])
/-- the weeks' bounds on both sides -/
theorem hR_mo (hs0 : hI_S VM1 VM4 VM2 NM0 NM1 NM2 LM0 LM1 LM9 LM10 LM2 LM3 LS6 LS7 LS8 IS0 VM3 LM6 LM7 LM8 IY0 VM1 VM2 VM3 VM4 NM0 NM1 NM2 LM0 LM1 LM2 LM3 LM4 LM5 LM6 LM7 LM8 LM9 LM10 LM11 IM0 IM1) : (∀ w, w < 12 → (fun w => (LM11 w).toInt) w = (fun w => (LS8 w).toInt) w ∨ 1000000000000 ≤ (fun w => (LS8 w).toInt) w) ∧ (∀ w, w < 12 → (fun w => (LS8 w).toInt) w = (fun w => (LM11 w).toInt) w ∨ 1000000000000 ≤ (fun w => (LM11 w).toInt) w) := by
  have z : (1099511627776 : Int64).toInt = 1099511627776 := by decide
  have z2 : (1000000000000 : Int64).toInt = 1000000000000 := by decide
  refine ⟨fun w hw => ?_, fun w hw => ?_⟩
  · show (LM11 w).toInt = (LS8 w).toInt ∨ 1000000000000 ≤ (LS8 w).toInt
    rcases hs0.2.2.2.1 w hw with e | e
    · rw [e]; exact Or.inl rfl
    · rw [e.1, z]; exact Or.inr (by omega)
  · show (LS8 w).toInt = (LM11 w).toInt ∨ 1000000000000 ≤ (LM11 w).toInt
    rcases hs0.2.2.2.1 w hw with e | e
    · rw [e]; exact Or.inl rfl
    · rw [e.2, z2]; exact Or.inr (by omega)
theorem hM_sent.max {n F cuts : Nat} {sv : Nat → Nat → Prop} {cap want : Nat → Int} {wk : Nat → Nat} {most : Nat → Int} {u : Nat → Nat → Int} {d : Nat → Nat → Int64} {C : Nat → Int64} {r : Int64 × (Nat → Int64) × (Nat → Int64) × (Nat → Int32)} (h : hM_sent n F cuts sv cap want wk most u d C r) {y : Nat → Nat → Int} (hy : hPP n F cuts sv cap want wk most y) : h2 y n F ≤ r.1.toInt ∧ r.1.toInt ≤ hs want F := by
  obtain ⟨-, -, -, his, ⟨sn, s1, s2, s3, s4⟩, -⟩ := h
  obtain ⟨hPPx, q0, -⟩ := hn_all his
  have hw12 : ∀ f, f < F → wk f < 12 := by
    obtain ⟨c0, c1, c3, A, a1, a2, a3, a4, -⟩ := his
    exact a4
  have k := (hq_cut0 hw12 (Or.inr s2) (Or.inl s3) (fun s => s1 (1 + s)) (fun f => s1 (13 + f)) (fun w => by unfold hn_om; by_cases c : hd_hf wk F w = true; rw [if_pos c]; exact s1 _; rw [if_neg c]; exact Or.inl rfl) hPPx (hn_cl his s1 s4) hy).1
  have e : hs (hgap wk (fun f => sn (13 + f)) (hn_om wk F sn) want want) F = 0 := hs_zero (fun f _ => by unfold hgap; by_cases c : sn (13 + f) = 1 ∧ hn_om wk F sn (wk f) = 0; rw [if_pos c, Int.sub_self]; rw [if_neg c])
  rw [e, s2, s3] at k
  refine ⟨by omega, ?_⟩
  rw [q0, h2_cols]
  exact hs_le hPPx.2.2.1
/-- the reference's own network, without a change -/
theorem hR_base (hs0 : hI_S VM1 VM4 VM2 NM0 NM1 NM2 LM0 LM1 LM9 LM10 LM2 LM3 LS6 LS7 LS8 IS0 VM3 LM6 LM7 LM8 IY0 VM1 VM2 VM3 VM4 NM0 NM1 NM2 LM0 LM1 LM2 LM3 LM4 LM5 LM6 LM7 LM8 LM9 LM10 LM11 IM0 IM1) (LM13 LM14 far : Nat → Int64) (bef : Nat → Int32) (x5 : Int32) :
    hM_sent (VM1 + VM4) VM2 VM1 (hz_svp VM1 NM0 NM1 NM2 IM0) (hI_C VM1 NM0 LM0 LM4 LM5) (hI_w LM2) NM2 (fun w => (LM11 w).toInt) (hI_u VM1 VM3 NM2 LM1 LM3 LM6 LM7 LM8 LM9 LM10 IM1 x5) (hl_t VM2 (hl_sv VM1 NM0 NM1 NM2 IM0) (hl_un VM1 VM3 NM2 LM1 LM3 LM6 LM7 LM8 LM9 LM10 IM1 x5) (VM1 + VM4) 0)
      (f_Model_lay VM1 VM2 VM3 VM4 NM0 NM1 NM2 LM0 LM1 LM2 LM3 LM4 LM5 LM6 LM7 LM8 LM9 LM10 LM11 LM13 LM14 IM0 IM1 (-2) (-2) 0 x5).2 (f_Model_sendAll (f_Model_lay VM1 VM2 VM3 VM4 NM0 NM1 NM2 LM0 LM1 LM2 LM3 LM4 LM5 LM6 LM7 LM8 LM9 LM10 LM11 LM13 LM14 IM0 IM1 (-2) (-2) 0 x5).1 (f_Model_lay VM1 VM2 VM3 VM4 NM0 NM1 NM2 LM0 LM1 LM2 LM3 LM4 LM5 LM6 LM7 LM8 LM9 LM10 LM11 LM13 LM14 IM0 IM1 (-2) (-2) 0 x5).2 far bef) := by
  obtain ⟨-, ⟨b1, b2, b3, b4, b5, b6, b7⟩, h6, h8, hbits, hbars, hv⟩ := id hs0
  have k := hM_send (VM1 := VM1) (VM2 := VM2) (VM3 := VM3) (VM4 := VM4) (NM0 := NM0) (NM1 := NM1) (NM2 := NM2) (LM0 := LM0) (LM1 := LM1) (LM2 := LM2) (LM3 := LM3) (LM4 := LM4) (LM5 := LM5) (LM6 := LM6) (LM7 := LM7) (LM8 := LM8) (LM9 := LM9) (LM10 := LM10) (LM11 := LM11) (IM0 := IM0) (IM1 := IM1) (-2) (-2) 0 x5 LM13 LM14 far bef hv b5 b7 b2 (by omega) (by decide) (fun s hs1 e => absurd e (hv_m2 (by omega)))
  obtain ⟨k1, k2, k3, k4, k5, k6⟩ := k
  refine ⟨k1, k2, k3, hn_is_congr (fun s hs1 hc => ?_) (fun f hf => ?_) (fun _ _ => rfl) (fun _ _ _ _ => Iff.rfl) k4, k5, k6⟩
  · have g := hv_gives (NM0 := NM0) hv b5 s
    show (hl_cap VM1 NM0 LM0 LM4 LM5 (-2) s).toInt = hI_C VM1 NM0 LM0 LM4 LM5 s
    unfold hl_cap hI_C
    rw [if_pos hc, if_neg (hv_m2 (by omega)), if_pos hc, h64_sub (by rw [h64_0]; omega) (by rw [h64_0]; omega), h64_0]
    omega
  · have g := hv.2.2.1 f
    show (hl_wt LM2 (-2) 0 f).toInt = (LM2 f).toInt
    unfold hl_wt
    rw [if_neg (hv_m2 (by omega)), h64_add (by rw [h64_0]; omega) (by rw [h64_0]; omega), h64_0]
    omega
end HSITE
