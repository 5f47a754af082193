/-! ===== the reference's flows, in whole numbers ===== -/
theorem hn_is_congr {n F cuts : Nat} {sv sv' : Nat → Nat → Prop} {cap cap' want want' : Nat → Int} {wk : Nat → Nat} {most most' : Nat → Int} {B : Nat → Nat → Int} {v : Int} (h1 : ∀ s, s < n → s < cuts → cap s = cap' s) (h2 : ∀ f, f < F → want f = want' f) (h3 : ∀ w, w < 12 → most w = most' w) (h4 : ∀ s f, s < n → f < F → (sv s f ↔ sv' s f)) (h : hn_is n F cuts sv cap want wk most B v) : hn_is n F cuts sv' cap' want' wk most' B v := by
  obtain ⟨c0, c1, c3, A, a1, a2, a3, a4, a5, a6, a7, a8, a9, a10, a11, a12, a13, a14⟩ := h
  refine ⟨c0, c1, c3, A, fun a b ha hb => ?_, a2, a3, a4, a5, a6, a7, a8, a9, fun s hs1 => ⟨fun hc => ?_, (a10 s hs1).2⟩, fun s f hs1 hf => ⟨fun q => (a11 s f hs1 hf).1 ((h4 s f hs1 hf).mpr q), fun q => (a11 s f hs1 hf).2 (fun z => q ((h4 s f hs1 hf).mp z))⟩, fun w hw => ?_, fun w hw => ?_, ?_⟩
  · rw [a1 a b ha hb]
    unfold hnA
    by_cases k : a - 13 < F ∧ b - 21 = wk (a - 13)
    · rw [h2 (a - 13) k.1]
    · simp only [if_neg k]
  · rw [(a10 s hs1).1 hc, h1 s hs1 hc]
  · rw [← h3 w hw]
    exact a12 w hw
  · rw [← h3 w hw]
    exact a13 w hw
  · rw [← hs_congr h2]
    exact a14
theorem hPP_most {n F cuts : Nat} {sv : Nat → Nat → Prop} {cap want : Nat → Int} {wk : Nat → Nat} {most most' : Nat → Int} {x : Nat → Nat → Int} (hm : ∀ w, w < 12 → most w = most' w ∨ 1000000000000 ≤ most' w) (hw : hs want F ≤ 100000000) (h : hPP n F cuts sv cap want wk most x) : hPP n F cuts sv cap want wk most' x := by
  refine ⟨h.1, h.2.1, h.2.2.1, fun w hw12 => ?_⟩
  rcases hm w hw12 with e | e
  · rw [← e]; exact h.2.2.2 w hw12
  · have k : hwk wk x n F w ≤ hs want F := hs_le (fun f hf => by
      show (if wk f = w then hcol x n f else 0) ≤ want f
      have a := h.2.2.1 f hf
      have b := hcol_nn (fun s f a b => (h.1 s f a b).1) hf
      by_cases c : wk f = w
      · rw [if_pos c]; exact a
      · rw [if_neg c]; omega)
    omega
theorem hwk_le {n F cuts : Nat} {sv : Nat → Nat → Prop} {cap want : Nat → Int} {wk : Nat → Nat} {most : Nat → Int} {x : Nat → Nat → Int} (h : hPP n F cuts sv cap want wk most x) (w : Nat) : hwk wk x n F w ≤ hs want F := hs_le (fun f hf => by
  show (if wk f = w then hcol x n f else 0) ≤ want f
  have a := h.2.2.1 f hf
  have b := hcol_nn (fun s f a b => (h.1 s f a b).1) hf
  by_cases c : wk f = w
  · rw [if_pos c]; exact a
  · rw [if_neg c]; omega)
theorem hcl_most {n F cuts : Nat} {sv : Nat → Nat → Prop} {cap want : Nat → Int} {wk : Nat → Nat} {most most' : Nat → Int} {x : Nat → Nat → Int} {t e : Int} {sg ph om : Nat → Int} (hm : ∀ w, w < 12 → most w = most' w ∨ 1000000000000 ≤ most w) (hw : hs want F ≤ 100000000) (hx : hPP n F cuts sv cap want wk most x) (h : hcl n F cuts sv cap want wk most x t e sg ph om) : hcl n F cuts sv cap want wk most' x t e sg ph om := by
  refine ⟨h.1, h.2.1, h.2.2.1, fun w hw12 => ⟨fun e1 e2 => ?_, (h.2.2.2 w hw12).2⟩⟩
  have k := (h.2.2.2 w hw12).1 e1 e2
  rcases hm w hw12 with q | q
  · rw [← q]; exact k
  · have := hwk_le hx w
    omega
/-- a full plan brings every fill what it wants -/
theorem hPP_full {n F cuts : Nat} {sv : Nat → Nat → Prop} {cap want : Nat → Int} {wk : Nat → Nat} {most : Nat → Int} {x : Nat → Nat → Int} (h : hPP n F cuts sv cap want wk most x) (hv : hs want F ≤ h2 x n F) : ∀ f, f < F → hcol x n f = want f := by
  intro f hf
  have e1 : hs (fun f => want f - hcol x n f) F ≤ 0 := by
    rw [hs_sub, ← h2_cols]
    omega
  have k := hs_each (f := fun f => want f - hcol x n f) (fun f hf => by have := h.2.2.1 f hf; show 0 ≤ want f - hcol x n f; omega) hf e1
  have k' : want f - hcol x n f = 0 := k
  omega
section HSENT
variable {VM1 VM2 VM3 VM4 : Nat} {NM0 NM1 NM2 : Nat → Nat} {LM0 LM1 LM2 LM3 LM4 LM5 LM6 LM7 LM8 LM9 LM10 LM11 : Nat → Int64} {IM0 IM1 : Nat → Int32}
/-- what sendAll makes of a laid network -/
def hM_sent (n F cuts : Nat) (sv : Nat → Nat → Prop) (cap want : Nat → Int) (wk : Nat → Nat) (most : Nat → Int) (u : Nat → Nat → Int) (d : Nat → Nat → Int64) (C : Nat → Int64) (r : Int64 × (Nat → Int64) × (Nat → Int64) × (Nat → Int32)) : Prop :=
  hl_C d C ∧ (∀ s f, s < n → f < F → sv s f → (d s f).toInt = u s f) ∧ (∀ s f, s < n → f < F → -1000000 ≤ (d s f).toInt ∧ (d s f).toInt ≤ 1000000) ∧ hn_is n F cuts sv cap want wk most (hz_B r.2.1) r.1.toInt ∧
  (∃ sn, h01 sn ∧ sn 0 = 1 ∧ sn 33 = 0 ∧ ∀ a b, a < 34 → b < 34 → sn a = 1 → 0 < hz_B r.2.1 a b → sn b = 1) ∧ ∃ pi, hz_pot n F sv u (hz_B r.2.1) pi ∧ hm_Ord r.2.1 C pi
theorem hM_send (x1 x2 : Int32) (x3 : Int64) (x5 : Int32) (LM13 LM14 far : Nat → Int64) (bef : Nat → Int32) (hv : hv_M VM2 LM0 LM1 LM2 LM3 LM4 LM5 LM6 LM7 LM8 LM9 LM10 LM11) (hk : ∀ i, NM0 i < 4) (hwk12 : ∀ i, NM2 i < 12) (hF : VM2 ≤ 8) (hn12 : VM1 + VM4 ≤ 12) (h3 : -1 ≤ x3.toInt ∧ x3.toInt ≤ 1) (hg : ∀ s, s < VM1 → nI s = x1 → ¬ f_Model_gives NM0 LM0 LM4 LM5 s = 0) :
    hM_sent (VM1 + VM4) VM2 VM1 (hz_svp VM1 NM0 NM1 NM2 IM0) (fun s => (hl_cap VM1 NM0 LM0 LM4 LM5 x1 s).toInt) (fun f => (hl_wt LM2 x2 x3 f).toInt) NM2 (fun w => (LM11 w).toInt) (hI_u VM1 VM3 NM2 LM1 LM3 LM6 LM7 LM8 LM9 LM10 IM1 x5) (hl_t VM2 (hl_sv VM1 NM0 NM1 NM2 IM0) (hl_un VM1 VM3 NM2 LM1 LM3 LM6 LM7 LM8 LM9 LM10 IM1 x5) (VM1 + VM4) 0)
      (f_Model_lay VM1 VM2 VM3 VM4 NM0 NM1 NM2 LM0 LM1 LM2 LM3 LM4 LM5 LM6 LM7 LM8 LM9 LM10 LM11 LM13 LM14 IM0 IM1 x1 x2 x3 x5).2 (f_Model_sendAll (f_Model_lay VM1 VM2 VM3 VM4 NM0 NM1 NM2 LM0 LM1 LM2 LM3 LM4 LM5 LM6 LM7 LM8 LM9 LM10 LM11 LM13 LM14 IM0 IM1 x1 x2 x3 x5).1 (f_Model_lay VM1 VM2 VM3 VM4 NM0 NM1 NM2 LM0 LM1 LM2 LM3 LM4 LM5 LM6 LM7 LM8 LM9 LM10 LM11 LM13 LM14 IM0 IM1 x1 x2 x3 x5).2 far bef) := by
  have hlay := f_Model_lay_is (VM1 := VM1) (VM2 := VM2) (VM3 := VM3) (VM4 := VM4) (NM0 := NM0) (NM1 := NM1) (NM2 := NM2) (LM0 := LM0) (LM1 := LM1) (LM2 := LM2) (LM3 := LM3) (LM4 := LM4) (LM5 := LM5) (LM6 := LM6) (LM7 := LM7) (LM8 := LM8) (LM9 := LM9) (LM10 := LM10) (LM11 := LM11) (IM0 := IM0) (IM1 := IM1) (x1 := x1) (x2 := x2) (x3 := x3) (x5 := x5) hF hn12 hwk12 LM13 LM14
  obtain ⟨hNet, hho, -⟩ := hv_net (VM1 := VM1) (VM3 := VM3) (VM4 := VM4) (NM0 := NM0) (NM1 := NM1) (NM2 := NM2) (IM0 := IM0) (IM1 := IM1) x1 x2 x3 x5 LM13 LM14 hv hk hwk12 hF hn12 h3 hg
  generalize f_Model_lay VM1 VM2 VM3 VM4 NM0 NM1 NM2 LM0 LM1 LM2 LM3 LM4 LM5 LM6 LM7 LM8 LM9 LM10 LM11 LM13 LM14 IM0 IM1 x1 x2 x3 x5 = L at *
  obtain ⟨pi, hdone⟩ := f_Model_sendAll_done (R := L.1) (C := L.2) far bef hNet
  have hord := hdone.ord hho
  generalize f_Model_sendAll L.1 L.2 far bef = r at *
  obtain ⟨hN, hG, hend, hfl⟩ := hdone
  have hcb := hN.2.1
  have hun : ∀ s f, 0 ≤ (hl_un VM1 VM3 NM2 LM1 LM3 LM6 LM7 LM8 LM9 LM10 IM1 x5 s f).toInt ∧ (hl_un VM1 VM3 NM2 LM1 LM3 LM6 LM7 LM8 LM9 LM10 IM1 x5 s f).toInt ≤ 200000 := fun s f => hv_unit (VM1 := VM1) (VM3 := VM3) (NM2 := NM2) (IM1 := IM1) hv s f x5
  have hwt : ∀ f, f < VM2 → 0 ≤ (hl_wt LM2 x2 x3 f).toInt ∧ (hl_wt LM2 x2 x3 f).toInt ≤ 10000000 := by
    intro f hf
    have a := hv.2.2.1 f
    have b := hv.2.2.2.1 f hf
    unfold hl_wt
    by_cases c : nI f = x2
    · rw [if_pos c, h64_add (by omega) (by omega)]
      omega
    · rw [if_neg c, h64_add (by rw [h64_0]; omega) (by rw [h64_0]; omega), h64_0]
      omega
  have hu1 : ∀ s f, s < VM1 + VM4 → f < VM2 → hz_svp VM1 NM0 NM1 NM2 IM0 s f → (hl_t VM2 (hl_sv VM1 NM0 NM1 NM2 IM0) (hl_un VM1 VM3 NM2 LM1 LM3 LM6 LM7 LM8 LM9 LM10 IM1 x5) (VM1 + VM4) 0 s f).toInt = hI_u VM1 VM3 NM2 LM1 LM3 LM6 LM7 LM8 LM9 LM10 IM1 x5 s f := by
    intro s f hs1 hf hsv
    unfold hl_t
    rw [if_pos ⟨Or.inl hs1, hf, hsv⟩]
    rfl
  have hd1 : ∀ s f, s < VM1 + VM4 → f < VM2 → -1000000 ≤ (hl_t VM2 (hl_sv VM1 NM0 NM1 NM2 IM0) (hl_un VM1 VM3 NM2 LM1 LM3 LM6 LM7 LM8 LM9 LM10 IM1 x5) (VM1 + VM4) 0 s f).toInt ∧ (hl_t VM2 (hl_sv VM1 NM0 NM1 NM2 IM0) (hl_un VM1 VM3 NM2 LM1 LM3 LM6 LM7 LM8 LM9 LM10 IM1 x5) (VM1 + VM4) 0 s f).toInt ≤ 1000000 := by
    intro s f hs1 hf
    have a := hun s f
    unfold hl_t
    by_cases c : (s < VM1 + VM4 ∨ (s = VM1 + VM4 ∧ f < 0)) ∧ f < VM2 ∧ ¬ hl_sv VM1 NM0 NM1 NM2 IM0 s f = 0
    · rw [if_pos c]; omega
    · rw [if_neg c, h64_0]; omega
  have his := hz_is (cuts := VM1) hn12 hF hwk12 hlay (fun s hs1 hc => by unfold hl_cap; rw [if_neg (by omega)]) (fun f hf => (hwt f hf).2) (fun w hw => (hv.2.2.2.2.2.2.2.2.2.2.2.2 w hw).1) hN.2.2.1 hfl
  obtain ⟨hPPx, q0, q1, q2, q3, q4, q5⟩ := hn_all his
  refine ⟨hlay.2, hu1, hd1, his, ?_, pi, ?_, hord⟩
  · obtain ⟨n1, n2⟩ := hz_far hcb hN.pb (show 0 < 34 by omega) hG
    refine ⟨fun v => if (r.2.2.1 v).toInt < 4000000000000000 then 1 else 0, fun v => ?_, ?_, ?_, fun a b ha hb hsa hp => ?_⟩
    · show (if (r.2.2.1 v).toInt < 4000000000000000 then (1 : Int) else 0) = 0 ∨ (if (r.2.2.1 v).toInt < 4000000000000000 then (1 : Int) else 0) = 1
      by_cases c : (r.2.2.1 v).toInt < 4000000000000000
      · rw [if_pos c]; exact Or.inr rfl
      · rw [if_neg c]; exact Or.inl rfl
    · show (if (r.2.2.1 0).toInt < 4000000000000000 then (1 : Int) else 0) = 1
      have z : (r.2.2.1 0).toInt = 0 := hG.1.1
      rw [if_pos (by omega)]
    · show (if (r.2.2.1 33).toInt < 4000000000000000 then (1 : Int) else 0) = 0
      rw [h64_le, h64_nev] at hend
      rw [if_neg (by omega)]
    · have hsa' : (if (r.2.2.1 a).toInt < 4000000000000000 then (1 : Int) else 0) = 1 := hsa
      show (if (r.2.2.1 b).toInt < 4000000000000000 then (1 : Int) else 0) = 1
      have ra : (r.2.2.1 a).toInt < 4000000000000000 := by
        refine Classical.byContradiction (fun q => ?_)
        rw [if_neg q] at hsa'
        omega
      have k := (n2 a b ha hb ⟨ha, ra⟩ hp).1.2
      have k' : (r.2.2.1 b).toInt < 4000000000000000 := k
      rw [if_pos k']
  · refine hz_potof hn12 hF hlay.2 hu1 hd1 hN.1 (fun s f hs1 hf hsv => (q2 s f hs1 hf).1 hsv) (fun s f hs1 hf hp => ?_)
    refine Classical.byContradiction (fun q => ?_)
    have := (hPPx.1 s f hs1 hf).2 q
    have hp' : 0 < hz_B r.2.1 (13 + f) (1 + s) := hp
    have this' : hz_B r.2.1 (13 + f) (1 + s) = 0 := this
    omega
end HSENT
