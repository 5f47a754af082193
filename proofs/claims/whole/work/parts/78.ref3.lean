/-! ===== the reference's run ===== -/
section HREFRUN
variable {VM1 VM2 VM3 VM4 : Nat} {NM0 NM1 NM2 : Nat → Nat} {LM0 LM1 LM2 LM3 LM4 LM5 LM6 LM7 LM8 LM9 LM10 LM11 LS6 LS7 LS8 : Nat → Int64} {IM0 IM1 IS0 IY0 : Nat → Int32}
theorem hM_sent.cost (hs0 : hI_S VM1 VM4 VM2 NM0 NM1 NM2 LM0 LM1 LM9 LM10 LM2 LM3 LS6 LS7 LS8 IS0 VM3 LM6 LM7 LM8 IY0 VM1 VM2 VM3 VM4 NM0 NM1 NM2 LM0 LM1 LM2 LM3 LM4 LM5 LM6 LM7 LM8 LM9 LM10 LM11 IM0 IM1) {cap want : Nat → Int} {most : Nat → Int} {x5 : Int32} {d : Nat → Nat → Int64} {CO : Nat → Int64} {r : Int64 × (Nat → Int64) × (Nat → Int64) × (Nat → Int32)} (h : hM_sent (VM1 + VM4) VM2 VM1 (hz_svp VM1 NM0 NM1 NM2 IM0) cap want NM2 most (hI_u VM1 VM3 NM2 LM1 LM3 LM6 LM7 LM8 LM9 LM10 IM1 x5) d CO r) :
    (f_Model_total VM1 VM2 VM4 NM0 NM1 NM2 r.2.1 CO IM0).toInt = hcost (hI_u VM1 VM3 NM2 LM1 LM3 LM6 LM7 LM8 LM9 LM10 IM1 x5) (hn_x (hz_B r.2.1)) (VM1 + VM4) VM2 := by
  obtain ⟨-, ⟨b1, b2, b3, b4, b5, b6, b7⟩, h6, h8, hbits, hbars, hv⟩ := id hs0
  obtain ⟨k1, k2, k3, k4, k5, k6⟩ := h
  obtain ⟨hPPx, q0, q1, q2, q3, q4, q5⟩ := hn_all k4
  have hw8 : hs want VM2 ≤ 100000000 := by
    obtain ⟨c0, c1, c3, A, a1, a2, a3, a4, a5, a6, a7, a8, a9, a10, a11, a12, a13, a14⟩ := k4
    exact a14
  refine hw_total rfl (by omega) b2 (fun s f h1 h2 => ⟨(hPPx.1 s f h1 h2).1, ?_⟩) (fun s f h1 h2 => Or.inl ?_) (fun s f h1 h2 => ⟨fun e => ?_, fun e => ⟨?_, ?_⟩⟩)
  · have := (hn_small (x := hn_x (hz_B r.2.1)) (s := s) (f := f) (fun s f a b => (hPPx.1 s f a b).1) hPPx.2.2.1 h1).2 h2
    omega
  · have := hv_unit (VM1 := VM1) (VM3 := VM3) (NM2 := NM2) (IM1 := IM1) hv s f x5
    unfold hI_u
    omega
  · exact (hPPx.1 s f h1 h2).2 (fun z => z e)
  · show (r.2.1 (34 * (13 + f) + 1 + s)).toInt = (r.2.1 (34 * (13 + f) + (1 + s))).toInt
    rw [show 34 * (13 + f) + 1 + s = 34 * (13 + f) + (1 + s) by omega]
  · have k := k1 (1 + s) (13 + f) (by omega) (by omega)
    rw [show 34 * (1 + s) + (13 + f) = 34 * (1 + s) + 13 + f by omega] at k
    rw [k]
    unfold hl_w
    rw [if_pos (by omega), show 1 + s - 1 = s by omega, show 13 + f - 13 = f by omega]
    exact k2 s f h1 h2 e
theorem hM_sent.cert {n F cuts : Nat} {sv : Nat → Nat → Prop} {cap want : Nat → Int} {wk : Nat → Nat} {most : Nat → Int} {u : Nat → Nat → Int} {d : Nat → Nat → Int64} {CO : Nat → Int64} {r : Int64 × (Nat → Int64) × (Nat → Int64) × (Nat → Int32)} (h : hM_sent n F cuts sv cap want wk most u d CO r) : ∃ w rr, hq_cert n F cuts sv u (hn_x (hz_B r.2.1)) cap w rr := by
  obtain ⟨k1, k2, k3, k4, k5, pi, k6, k7⟩ := h
  exact ⟨_, _, hz_cert k4 k6⟩
/-- a run that finds a plan: its cost, and its first plan -/
theorem hR_planned (hs0 : hI_S VM1 VM4 VM2 NM0 NM1 NM2 LM0 LM1 LM9 LM10 LM2 LM3 LS6 LS7 LS8 IS0 VM3 LM6 LM7 LM8 IY0 VM1 VM2 VM3 VM4 NM0 NM1 NM2 LM0 LM1 LM2 LM3 LM4 LM5 LM6 LM7 LM8 LM9 LM10 LM11 IM0 IM1) {LM13 LM14 far : Nat → Int64} {bef : Nat → Int32} (LM12 : Nat → Int64) {r : Int64 × (Nat → Int64) × (Nat → Int64) × (Nat → Int32)} (hr : f_Model_sendAll (f_Model_lay VM1 VM2 VM3 VM4 NM0 NM1 NM2 LM0 LM1 LM2 LM3 LM4 LM5 LM6 LM7 LM8 LM9 LM10 LM11 LM13 LM14 IM0 IM1 (-2) (-2) 0 (-2)).1 (f_Model_lay VM1 VM2 VM3 VM4 NM0 NM1 NM2 LM0 LM1 LM2 LM3 LM4 LM5 LM6 LM7 LM8 LM9 LM10 LM11 LM13 LM14 IM0 IM1 (-2) (-2) 0 (-2)).2 far bef = r) (hfull : r.1.toInt = hs (hI_w LM2) VM2) :
    ∃ K z, (f_Model_total VM1 VM2 VM4 NM0 NM1 NM2 r.2.1 (f_Model_lay VM1 VM2 VM3 VM4 NM0 NM1 NM2 LM0 LM1 LM2 LM3 LM4 LM5 LM6 LM7 LM8 LM9 LM10 LM11 LM13 LM14 IM0 IM1 (-2) (-2) 0 (-2)).2 IM0).toInt = K ∧ (∀ s f, s < VM1 + VM4 → f < VM2 → ((f_Model_order VM1 VM2 VM4 NM0 NM1 NM2 LM12 r.2.1 (f_Model_lay VM1 VM2 VM3 VM4 NM0 NM1 NM2 LM0 LM1 LM2 LM3 LM4 LM5 LM6 LM7 LM8 LM9 LM10 LM11 LM13 LM14 IM0 IM1 (-2) (-2) 0 (-2)).2 r.2.2.1 IM0 r.2.2.2).1 (8 * s + f)).toInt = z s f) ∧
      hz_Opt (VM1 + VM4) VM2 VM1 (hz_svp VM1 NM0 NM1 NM2 IM0) (hI_C VM1 NM0 LM0 LM4 LM5) (hI_w LM2) (hI_u VM1 VM3 NM2 LM1 LM3 LM6 LM7 LM8 LM9 LM10 IM1 (-2)) K z ∧ (∀ s f, s < VM1 + VM4 → f < VM2 → hz_lx (VM1 + VM4) VM2 VM1 (hz_svp VM1 NM0 NM1 NM2 IM0) (hI_C VM1 NM0 LM0 LM4 LM5) (hI_w LM2) (hI_u VM1 VM3 NM2 LM1 LM3 LM6 LM7 LM8 LM9 LM10 IM1 (-2)) K z s f) ∧
      ∀ y, (∀ s f, s < VM1 + VM4 → f < VM2 → 0 ≤ y s f ∧ (¬ hz_svp VM1 NM0 NM1 NM2 IM0 s f → y s f = 0)) → (∀ s, s < VM1 + VM4 → s < VM1 → hrow y VM2 s ≤ hI_C VM1 NM0 LM0 LM4 LM5 s) → (∀ f, f < VM2 → hcol y (VM1 + VM4) f = hI_w LM2 f) → K ≤ hcost (hI_u VM1 VM3 NM2 LM1 LM3 LM6 LM7 LM8 LM9 LM10 IM1 (-2)) y (VM1 + VM4) VM2 := by
  obtain ⟨-, ⟨b1, b2, b3, b4, b5, b6, b7⟩, h6, h8, hbits, hbars, hv⟩ := id hs0
  have base := hR_base hs0 LM13 LM14 far bef (-2)
  rw [hr] at base
  have hcost0 := base.cost hs0
  obtain ⟨w0, r0, cert0⟩ := base.cert
  obtain ⟨k1, k2, k3, k4, k5, pi, k6, k7⟩ := base
  obtain ⟨hPPx, q0, q1, q2, q3, q4, q5⟩ := hn_all k4
  have full0 := hPP_full hPPx (by rw [← q0, hfull]; exact Int.le_refl _)
  have hKmin : ∀ y, (∀ s f, s < VM1 + VM4 → f < VM2 → 0 ≤ y s f ∧ (¬ hz_svp VM1 NM0 NM1 NM2 IM0 s f → y s f = 0)) → (∀ s, s < VM1 + VM4 → s < VM1 → hrow y VM2 s ≤ hI_C VM1 NM0 LM0 LM4 LM5 s) → (∀ f, f < VM2 → hcol y (VM1 + VM4) f = hI_w LM2 f) → hcost (hI_u VM1 VM3 NM2 LM1 LM3 LM6 LM7 LM8 LM9 LM10 IM1 (-2)) (hn_x (hz_B r.2.1)) (VM1 + VM4) VM2 ≤ hcost (hI_u VM1 VM3 NM2 LM1 LM3 LM6 LM7 LM8 LM9 LM10 IM1 (-2)) y (VM1 + VM4) VM2 := fun y y1 y2 y3 => cert0.best y1 y2 (fun f hf => by rw [y3 f hf, full0 f hf])
  rw [hfull] at k4
  have hW0 : hz_W (VM1 + VM4) VM2 VM1 (hz_svp VM1 NM0 NM1 NM2 IM0) (hI_C VM1 NM0 LM0 LM4 LM5) (hI_w LM2) NM2 (fun w => (LM11 w).toInt) (hI_u VM1 VM3 NM2 LM1 LM3 LM6 LM7 LM8 LM9 LM10 IM1 (-2)) (hcost (hI_u VM1 VM3 NM2 LM1 LM3 LM6 LM7 LM8 LM9 LM10 IM1 (-2)) (hn_x (hz_B r.2.1)) (VM1 + VM4) VM2) (f_Model_lay VM1 VM2 VM3 VM4 NM0 NM1 NM2 LM0 LM1 LM2 LM3 LM4 LM5 LM6 LM7 LM8 LM9 LM10 LM11 LM13 LM14 IM0 IM1 (-2) (-2) 0 (-2)).2 pi 0 0 LM12 r.2.1 := by
    refine ⟨hz_B r.2.1, ⟨k4, k6, k7, fun a b ha hb => ⟨fun hf => ?_, fun _ => rfl⟩⟩, fun s f h1 h2 h3 => ?_, fun s f h1 h2 h3 => ?_⟩
    · unfold hz_fz at hf
      omega
    · omega
    · omega
  obtain ⟨R', Bt, hO, hP, hl⟩ := hz_2 (VM1 := VM1) (VM4 := VM4) (NM0 := NM0) (NM1 := NM1) (NM2 := NM2) (IM0 := IM0) k1 rfl k2 k3 hKmin b2 13 0 LM12 r.2.1 r.2.2.1 r.2.2.2 (by omega) (Nat.zero_le _) hW0
  obtain ⟨hPPt, -⟩ := hn_all hO.1
  have certz := hz_cert hO.1 hO.2.1
  refine ⟨_, hn_x Bt, hcost0, fun s f h1 h2 => hP s f h1 h2 (Or.inl h1), ⟨hPPt.1, hPPt.2.1, hO.full, ?_⟩, fun s f h1 h2 => hl s f h1 h2 (Or.inl h1), hKmin⟩
  exact certz.best hPPx.1 hPPx.2.1 (fun f hf => by rw [full0 f hf, hO.full f hf])
/-- who clashes, on both sides -/
theorem hR_clashf (hs0 : hI_S VM1 VM4 VM2 NM0 NM1 NM2 LM0 LM1 LM9 LM10 LM2 LM3 LS6 LS7 LS8 IS0 VM3 LM6 LM7 LM8 IY0 VM1 VM2 VM3 VM4 NM0 NM1 NM2 LM0 LM1 LM2 LM3 LM4 LM5 LM6 LM7 LM8 LM9 LM10 LM11 IM0 IM1) {B : Nat → Nat → Int} {v : Int} (hB : hn_is (VM1 + VM4) VM2 VM1 (hz_svp VM1 NM0 NM1 NM2 IM0) (hI_C VM1 NM0 LM0 LM4 LM5) (hI_w LM2) NM2 (fun w => (LS8 w).toInt) B v) (hst : ∃ sn, h01 sn ∧ sn 0 = 1 ∧ sn 33 = 0 ∧ ∀ a b, a < 34 → b < 34 → sn a = 1 → 0 < B a b → sn b = 1)
    {u u' : Nat → Nat → Int} {d d' : Nat → Nat → Int64} {CO CO' : Nat → Int64} {r r' : Int64 × (Nat → Int64) × (Nat → Int64) × (Nat → Int32)} (hr : hM_sent (VM1 + VM4) VM2 VM1 (hz_svp VM1 NM0 NM1 NM2 IM0) (hI_C VM1 NM0 LM0 LM4 LM5) (hI_w LM2) NM2 (fun w => (LM11 w).toInt) u d CO r) {f0 : Nat} (hf0 : f0 < VM2) (hr' : hM_sent (VM1 + VM4) VM2 VM1 (hz_svp VM1 NM0 NM1 NM2 IM0) (hI_C VM1 NM0 LM0 LM4 LM5) (fun f => if f = f0 then hI_w LM2 f - 1 else hI_w LM2 f) NM2 (fun w => (LM11 w).toInt) u' d' CO' r') :
    v = r.1.toInt ∧ ((∀ S : Nat → Prop, S (13 + f0) → (∀ a b, a < 34 → b < 34 → S a → 0 < B a b → S b) → S (21 + NM2 f0)) ↔ r'.1.toInt = r.1.toInt) := by
  obtain ⟨-, ⟨b1, b2, b3, b4, b5, b6, b7⟩, h6, h8, hbits, hbars, hv⟩ := id hs0
  have mo := hR_mo hs0
  have ws := hR_wsum hs0
  have ws2 : hs (fun f => if f = f0 then hI_w LM2 f - 1 else hI_w LM2 f) VM2 ≤ hs (hI_w LM2) VM2 := hs_le (fun f _ => by
    show (if f = f0 then hI_w LM2 f - 1 else hI_w LM2 f) ≤ hI_w LM2 f
    by_cases c : f = f0
    · rw [if_pos c]; omega
    · rw [if_neg c]; omega)
  have hw12 : ∀ f, f < VM2 → NM2 f < 12 := fun f _ => b7 f
  obtain ⟨hPPx, qx, -⟩ := hn_all hB
  have hxM : hPP (VM1 + VM4) VM2 VM1 (hz_svp VM1 NM0 NM1 NM2 IM0) (hI_C VM1 NM0 LM0 LM4 LM5) (hI_w LM2) NM2 (fun w => (LM11 w).toInt) (hn_x B) := hPP_most mo.2 (by omega) hPPx
  obtain ⟨hPPr, qr, -⟩ := hn_all hr.2.2.2.1
  obtain ⟨hPPr', qr', -⟩ := hn_all hr'.2.2.2.1
  have hrS : hPP (VM1 + VM4) VM2 VM1 (hz_svp VM1 NM0 NM1 NM2 IM0) (hI_C VM1 NM0 LM0 LM4 LM5) (hI_w LM2) NM2 (fun w => (LS8 w).toInt) (hn_x (hz_B r.2.1)) := hPP_most mo.1 (by omega) hPPr
  have om01 : ∀ sn : Nat → Int, h01 sn → h01 (hn_om NM2 VM2 sn) := fun sn h w => by
    unfold hn_om
    by_cases c : hd_hf NM2 VM2 w = true
    · rw [if_pos c]; exact h _
    · rw [if_neg c]; exact Or.inl rfl
  -- both are greatest
  have hv1 : h2 (hn_x B) (VM1 + VM4) VM2 ≤ r.1.toInt := (hr.max hxM).1
  have hv2 : r.1.toInt ≤ h2 (hn_x B) (VM1 + VM4) VM2 := by
    obtain ⟨sn, s1, s2, s3, s4⟩ := hst
    have k := (hq_cut0 hw12 (Or.inr s2) (Or.inl s3) (fun s => s1 (1 + s)) (fun f => s1 (13 + f)) (om01 sn s1) hPPx (hn_cl hB s1 s4) hrS).1
    have e : hs (hgap NM2 (fun f => sn (13 + f)) (hn_om NM2 VM2 sn) (hI_w LM2) (hI_w LM2)) VM2 = 0 := hs_zero (fun f _ => by
      unfold hgap
      by_cases c : sn (13 + f) = 1 ∧ hn_om NM2 VM2 sn (NM2 f) = 0
      · rw [if_pos c, Int.sub_self]
      · rw [if_neg c])
    rw [e, s2, s3, ← qr] at k
    omega
  have hval : h2 (hn_x B) (VM1 + VM4) VM2 = r.1.toInt := by omega
  refine ⟨by omega, ?_⟩
  -- a plan for less is a plan
  have hy'W : hPP (VM1 + VM4) VM2 VM1 (hz_svp VM1 NM0 NM1 NM2 IM0) (hI_C VM1 NM0 LM0 LM4 LM5) (hI_w LM2) NM2 (fun w => (LM11 w).toInt) (hn_x (hz_B r'.2.1)) := by
    refine ⟨hPPr'.1, hPPr'.2.1, fun f hf => ?_, hPPr'.2.2.2⟩
    have a := hPPr'.2.2.1 f hf
    have a' : hcol (hn_x (hz_B r'.2.1)) (VM1 + VM4) f ≤ (if f = f0 then hI_w LM2 f - 1 else hI_w LM2 f) := a
    by_cases c : f = f0
    · rw [if_pos c] at a'; omega
    · rw [if_neg c] at a'; exact a'
  have hle : r'.1.toInt ≤ r.1.toInt := by
    have := (hr.max hy'W).1
    omega
  constructor
  · intro hCl
    refine Classical.byContradiction (fun hne => ?_)
    obtain ⟨sn, s1, s2, s3, s4⟩ := hr'.2.2.2.2.1
    have k := hq_cut0 (wanty := hI_w LM2) hw12 (Or.inr s2) (Or.inl s3) (fun s => s1 (1 + s)) (fun f => s1 (13 + f)) (om01 sn s1) hPPr' (hn_cl hr'.2.2.2.1 s1 s4) hxM
    rw [s2, s3] at k
    have e : hs (hgap NM2 (fun f => sn (13 + f)) (hn_om NM2 VM2 sn) (fun f => if f = f0 then hI_w LM2 f - 1 else hI_w LM2 f) (hI_w LM2)) VM2 = if sn (13 + f0) = 1 ∧ hn_om NM2 VM2 sn (NM2 f0) = 0 then 1 else 0 := by
      refine (hs_congr (fun f _ => ?_)).trans (hs_one (n := VM2) (k := f0) (if sn (13 + f0) = 1 ∧ hn_om NM2 VM2 sn (NM2 f0) = 0 then 1 else 0) hf0)
      show hgap NM2 (fun f => sn (13 + f)) (hn_om NM2 VM2 sn) (fun f => if f = f0 then hI_w LM2 f - 1 else hI_w LM2 f) (hI_w LM2) f = if f = f0 then (if sn (13 + f0) = 1 ∧ hn_om NM2 VM2 sn (NM2 f0) = 0 then 1 else 0) else 0
      show (if sn (13 + f) = 1 ∧ hn_om NM2 VM2 sn (NM2 f) = 0 then hI_w LM2 f - (if f = f0 then hI_w LM2 f - 1 else hI_w LM2 f) else 0) = _
      by_cases c : f = f0
      · subst c
        rw [if_pos rfl, if_pos rfl]
        by_cases c2 : sn (13 + f) = 1 ∧ hn_om NM2 VM2 sn (NM2 f) = 0
        · rw [if_pos c2, if_pos c2]; omega
        · rw [if_neg c2, if_neg c2]
      · rw [if_neg c, if_neg c, Int.sub_self]
        by_cases c2 : sn (13 + f) = 1 ∧ hn_om NM2 VM2 sn (NM2 f) = 0
        · rw [if_pos c2]
        · rw [if_neg c2]
    by_cases cr : sn (13 + f0) = 1 ∧ hn_om NM2 VM2 sn (NM2 f0) = 0
    · rw [e, if_pos cr] at k
      have hc := k.2 (by omega)
      have hcS := hcl_most (most' := fun w => (LS8 w).toInt) (fun w hw => by
        rcases mo.1 w hw with q | q
        · exact Or.inl q
        · right
          rcases mo.2 w hw with z | z
          · have z' : (LS8 w).toInt = (LM11 w).toInt := z
            have q' : 1000000000000 ≤ (LS8 w).toInt := q
            show 1000000000000 ≤ (LM11 w).toInt
            omega
          · exact z) (by omega) hxM hc
      have cl2 := hn_cl2 hB (Or.inr rfl) (Or.inl rfl) (fun s => s1 (1 + s)) (fun f => s1 (13 + f)) (om01 sn s1) hcS
      have fin := hCl (hn_S 1 0 (fun s => sn (1 + s)) (fun f => sn (13 + f)) (hn_om NM2 VM2 sn)) (Or.inr (Or.inr (Or.inl ⟨f0, by omega, rfl, cr.1⟩))) cl2
      have w12 := b7 f0
      rcases fin with z | ⟨s, z1, z2, z3⟩ | ⟨f, z1, z2, z3⟩ | ⟨w, z1, z2, z3⟩ | z
      · omega
      · omega
      · omega
      · have : w = NM2 f0 := by omega
        rw [this] at z3
        omega
      · omega
    · rw [e, if_neg cr] at k
      omega
  · intro heq
    have hyS : hPP (VM1 + VM4) VM2 VM1 (hz_svp VM1 NM0 NM1 NM2 IM0) (hI_C VM1 NM0 LM0 LM4 LM5) (fun f => if f = f0 then hI_w LM2 f - 1 else hI_w LM2 f) NM2 (fun w => (LS8 w).toInt) (hn_x (hz_B r'.2.1)) := hPP_most mo.1 (by omega) hPPr'
    have z : h2 (hn_x (hz_B r'.2.1)) (VM1 + VM4) VM2 - h2 (hn_x B) (VM1 + VM4) VM2 = 0 := by omega
    refine Classical.byContradiction (fun hn => ?_)
    -- a set that holds the fill and not its week
    have hex : ∃ S : Nat → Prop, S (13 + f0) ∧ (∀ a b, a < 34 → b < 34 → S a → 0 < B a b → S b) ∧ ¬ S (21 + NM2 f0) := Classical.byContradiction (fun q => hn (fun S a b => Classical.byContradiction (fun c => q ⟨S, a, b, c⟩)))
    clear hn
    obtain ⟨S, S1, S2, S3⟩ := hex
    have hsn : ∃ sn : Nat → Int, ∀ vv, (sn vv = 1 ∧ S vv) ∨ (sn vv = 0 ∧ ¬ S vv) := ⟨fun vv => @ite Int (S vv) (Classical.propDecidable _) 1 0, fun vv => by
      by_cases c : S vv
      · exact Or.inl ⟨@if_pos (S vv) (Classical.propDecidable _) c _ _ _, c⟩
      · exact Or.inr ⟨@if_neg (S vv) (Classical.propDecidable _) c _ _ _, c⟩⟩
    obtain ⟨sn, dn⟩ := hsn
    have s1 : h01 sn := fun vv => by
      rcases dn vv with c | c
      · exact Or.inr c.1
      · exact Or.inl c.1
    have d1 : ∀ vv, sn vv = 1 → S vv := fun vv e => by
      rcases dn vv with c | c
      · exact c.2
      · rw [c.1] at e
        exact absurd e (by decide)
    have d2 : ∀ vv, S vv → sn vv = 1 := fun vv e => by
      rcases dn vv with c | c
      · exact c.1
      · exact absurd e c.2
    have hc := hn_cl hB s1 (fun a b ha hb ga gp => d2 b (S2 a b ha hb (d1 a ga) gp))
    have p1 : sn (13 + f0) = 1 := d2 _ S1
    have p2 : sn (21 + NM2 f0) = 0 := by
      rcases dn (21 + NM2 f0) with c | c
      · exact absurd c.2 S3
      · exact c.1
    clear d1 d2 dn S1 S2 S3
    have k := (hq_cut0 hw12 (s1 0) (s1 33) (fun s => s1 (1 + s)) (fun f => s1 (13 + f)) (om01 sn s1) hPPx hc hyS).1
    rw [z, Int.mul_zero] at k
    have e : hs (hgap NM2 (fun f => sn (13 + f)) (hn_om NM2 VM2 sn) (hI_w LM2) (fun f => if f = f0 then hI_w LM2 f - 1 else hI_w LM2 f)) VM2 = -1 := by
      refine (hs_congr (fun f _ => ?_)).trans (hs_one (n := VM2) (k := f0) (-1) hf0)
      show hgap NM2 (fun f => sn (13 + f)) (hn_om NM2 VM2 sn) (hI_w LM2) (fun f => if f = f0 then hI_w LM2 f - 1 else hI_w LM2 f) f = if f = f0 then -1 else 0
      show (if sn (13 + f) = 1 ∧ hn_om NM2 VM2 sn (NM2 f) = 0 then (if f = f0 then hI_w LM2 f - 1 else hI_w LM2 f) - hI_w LM2 f else 0) = _
      by_cases c : f = f0
      · subst c
        have om0 : hn_om NM2 VM2 sn (NM2 f) = 0 := by
          unfold hn_om
          rw [if_pos ((hd_hf_iff NM2 (NM2 f) VM2).mpr ⟨f, hf0, rfl⟩)]
          exact p2
        rw [if_pos rfl, if_pos ⟨p1, om0⟩, if_pos rfl]
        omega
      · rw [if_neg c, if_neg c, Int.sub_self]
        by_cases c2 : sn (13 + f) = 1 ∧ hn_om NM2 VM2 sn (NM2 f) = 0
        · rw [if_pos c2]
        · rw [if_neg c2]
    rw [e] at k
    omega
end HREFRUN
