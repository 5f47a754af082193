/-! ===== bounds of the queues ===== -/
theorem hQ_12 {VP0 F : Nat} {LP0 LP2 LP3 : Nat → Int64} {s : Nat} (h12 : VP0 ≤ 12) (hF : F ≤ 8) {Post : (Nat → Int64) × Nat × (Nat → Nat) × (Nat → Int32) → Prop} {k : Nat → (Nat → Int64) → Nat → (Nat → Nat) → (Nat → Int32) → (Nat → Int64) × Nat × (Nat → Nat) × (Nat → Int32)} (hk : ∀ x L q qu bef, (∀ i, qu i < 21) → Post (k x L q qu bef)) :
    ∀ (m x : Nat) (L : Nat → Int64) (q : Nat) (qu : Nat → Nat) (bef : Nat → Int32), (∀ i, qu i < 21) → Post (f_Plan_makeFirst_h12 F LP0 LP2 LP3 s VP0 k m x L q qu bef) := by
  intro m
  induction m with
  | zero => exact fun x L q qu bef h => hk _ _ _ _ _ h
  | succ m ih =>
    intro x L q qu bef h
    rw [f_Plan_makeFirst_h12]
    unfold f_Plan_makeFirst_h12B
    by_cases c : F ≤ x
    · rw [if_pos c]
      exact hk _ _ _ _ _ h
    · rw [if_neg c, hh_bind]
      by_cases e : f_Plan_isFree LP0 LP2 LP3 s x = 0
      · rw [if_pos e]
        exact ih _ _ _ _ _ h
      · rw [if_neg e, hh_bind]
        exact ih _ _ _ _ _ (f_Plan_raise_q q qu LP0 L LP2 LP3 bef s x h h12 (by omega))
theorem hQ_first {VP0 F : Nat} (LP0 LP1 LP2 LP3 : Nat → Int64) (VP2 : Nat) {NP0 : Nat → Nat} (IP1 : Nat → Int32) (h12 : VP0 ≤ 12) (hF : F ≤ 8) (h : ∀ i, NP0 i < 21) : ∀ i, (f_Plan_makeFirst VP0 F VP2 NP0 LP0 LP1 LP2 LP3 IP1).2.2.1 i < 21 := by
  have gen : ∀ (m x : Nat) (L : Nat → Int64) (q : Nat) (qu : Nat → Nat) (bef : Nat → Int32), (∀ i, qu i < 21) → ∀ i, (f_Plan_makeFirst_h2 VP0 F LP0 LP2 LP3 f_Plan_makeFirst_x2 m x L q qu bef).2.2.1 i < 21 := by
    intro m
    induction m with
    | zero => exact fun x L q qu bef h => h
    | succ m ih =>
      intro x L q qu bef h
      rw [f_Plan_makeFirst_h2]
      unfold f_Plan_makeFirst_h2B
      by_cases c : VP0 ≤ x
      · rw [if_pos c]
        exact h
      · rw [if_neg c]
        refine hQ_12 (Post := fun r => ∀ i, r.2.2.1 i < 21) h12 hF (fun x' L' q' qu' bef' h' => ?_) 9 0 L q qu bef h
        unfold f_Plan_makeFirst_x12
        exact ih _ _ _ _ _ h'
  exact gen 13 0 LP1 VP2 NP0 IP1 h
theorem hQ_reach {NT1 : Nat → Nat} (R : Nat → Int64) (IT0 : Nat → Int32) (a b : Nat) (h : ∀ i, NT1 i < 34) (ha : a < 34) : ∀ i, (f_Shortage_canReach NT1 R IT0 a b).2.2 i < 34 := by
  obtain ⟨⟨q, hq⟩, -⟩ := f_Shortage_canReach_in R IT0 a b h ha
  exact hq.1
theorem hQ_40 {F : Nat} {R : Nat → Int64} {wk : Nat → Nat} (hF : F ≤ 8) : ∀ (m x : Nat) (bef : Nat → Int32) (qu : Nat → Nat) (n : Nat) (l : Nat → Nat), (∀ i, qu i < 34) → ∀ i, (f_Shortage_find_h40 F R wk (f_Shortage_find_x40 R) m x bef qu n l).2.2.1 i < 34 := by
  intro m
  induction m with
  | zero => exact fun x bef qu n l h => h
  | succ m ih =>
    intro x bef qu n l h
    rw [f_Shortage_find_h40]
    unfold f_Shortage_find_h40B
    by_cases c : F ≤ x
    · rw [if_pos c]
      exact h
    · rw [if_neg c, hh_bind]
      have k := hQ_reach R bef (12 + x) (20 + wk x) h (by omega)
      by_cases e : (f_Shortage_canReach qu R bef (12 + x) (20 + wk x)).1 = 0
      · rw [if_pos e]
        exact ih _ _ _ _ _ k
      · rw [if_neg e]
        exact ih _ _ _ _ _ k
theorem hQ_find {VS0 VS1 VS2 : Nat} {NS0 NS1 NS2 : Nat → Nat} {LS0 LS4 LS6 LS7 LS8 : Nat → Int64} {IS0 : Nat → Int32} (hF : VS2 ≤ 8) (NT0 : Nat → Nat) {NT1 : Nat → Nat} (LT0 : Nat → Int64) (IT0 : Nat → Int32) (h : ∀ i, NT1 i < 34) : ∀ i, (f_Shortage_find NT0 NT1 LT0 IT0 VS0 VS1 VS2 NS0 NS1 NS2 LS0 LS4 LS6 LS7 LS8 IS0).2.2.1 i < 34 := by
  have gen : ∀ (m x : Nat) (R : Nat → Int64) (bef : Nat → Int32) (qu : Nat → Nat), (∀ i, qu i < 34) → ∀ i, (f_Shortage_find_h6 (f_Shortage_find_x6 VS2 NS2 NT0) m x R bef qu).2.2.1 i < 34 := by
    intro m
    induction m with
    | zero => exact fun x R bef qu h => hQ_40 hF 9 0 bef qu 0 NT0 h
    | succ m ih =>
      intro x R bef qu h
      rw [f_Shortage_find_h6]
      unfold f_Shortage_find_h6B
      by_cases c : 1000000 ≤ x
      · rw [if_pos c]
        exact hQ_40 hF 9 0 bef qu 0 NT0 h
      · rw [if_neg c, hh_bind]
        have k := hQ_reach R bef 32 33 h (by omega)
        by_cases e : (f_Shortage_canReach qu R bef 32 33).1 = 0
        · rw [if_pos e]
          exact hQ_40 hF 9 0 _ _ 0 NT0 k
        · rw [if_neg e, hh_bind]
          exact ih _ _ _ _ k
  unfold f_Shortage_find
  rw [hh_bind]
  exact gen _ _ _ _ _ h
/-! ===== the reference's run: a plan, or who clashes ===== -/
theorem hR_vmax {n F cuts : Nat} {sv : Nat → Nat → Prop} {cap want : Nat → Int} {wk : Nat → Nat} {most : Nat → Int} {B : Nat → Nat → Int} {v : Int} (his : hn_is n F cuts sv cap want wk most B v) (hst : ∃ sn, h01 sn ∧ sn 0 = 1 ∧ sn 33 = 0 ∧ ∀ a b, a < 34 → b < 34 → sn a = 1 → 0 < B a b → sn b = 1) {y : Nat → Nat → Int} (hy : hPP n F cuts sv cap want wk most y) : h2 y n F ≤ v ∧ v ≤ hs want F := by
  obtain ⟨sn, s1, s2, s3, s4⟩ := hst
  obtain ⟨hPPx, q0, -⟩ := hn_all his
  have hw12 : ∀ f, f < F → wk f < 12 := by
    obtain ⟨c0, c1, c3, A, a1, a2, a3, a4, -⟩ := his
    exact a4
  have k := (hq_cut0 hw12 (Or.inr s2) (Or.inl s3) (fun s => s1 (1 + s)) (fun f => s1 (13 + f)) (fun w => by unfold hn_om; by_cases c : hd_hf wk F w = true; rw [if_pos c]; exact s1 _; rw [if_neg c]; exact Or.inl rfl) hPPx (hn_cl his s1 s4) hy).1
  have e : hs (hgap wk (fun f => sn (13 + f)) (hn_om wk F sn) want want) F = 0 := hs_zero (fun f _ => by unfold hgap; by_cases c : sn (13 + f) = 1 ∧ hn_om wk F sn (wk f) = 0; rw [if_pos c, Int.sub_self]; rw [if_neg c])
  rw [e, s2, s3] at k
  refine ⟨by omega, ?_⟩
  rw [q0, h2_cols]
  exact hs_le hPPx.2.2.1
section HRUN
variable {VM1 VM2 VM3 VM4 : Nat} {NM0 NM1 NM2 : Nat → Nat} {LM0 LM1 LM2 LM3 LM4 LM5 LM6 LM7 LM8 LM9 LM10 LM11 LS6 LS7 LS8 : Nat → Int64} {IM0 IM1 IS0 IY0 : Nat → Int32}
/-- what is asked of a run's clashing flag -/
def hR_flag (VM1 VM2 VM4 : Nat) (NM0 NM1 NM2 : Nat → Nat) (LM0 LM2 LM4 LM5 LM11 : Nat → Int64) (IM0 : Nat → Int32) (V : Int) (f : Nat) (i : Int32) : Prop := ∃ u' d' CO' r', hM_sent (VM1 + VM4) VM2 VM1 (hz_svp VM1 NM0 NM1 NM2 IM0) (hI_C VM1 NM0 LM0 LM4 LM5) (fun g => if g = f then hI_w LM2 g - 1 else hI_w LM2 g) NM2 (fun w => (LM11 w).toInt) u' d' CO' r' ∧ (¬ i = 0 ↔ r'.1.toInt = V)
theorem hR_83 (hs0 : hI_S VM1 VM4 VM2 NM0 NM1 NM2 LM0 LM1 LM9 LM10 LM2 LM3 LS6 LS7 LS8 IS0 VM3 LM6 LM7 LM8 IY0 VM1 VM2 VM3 VM4 NM0 NM1 NM2 LM0 LM1 LM2 LM3 LM4 LM5 LM6 LM7 LM8 LM9 LM10 LM11 IM0 IM1) {y48 : Int64 × (Nat → Int64) × (Nat → Int64) × (Nat → Int32)} {WM0 : Int64} {LM12 : Nat → Int64} : ∀ (m x : Nat) (L13 L14 L15 : Nat → Int64) (I2 I3 : Nat → Int32), VM2 - x < m → x ≤ VM2 → (∀ f, f < x → hR_flag VM1 VM2 VM4 NM0 NM1 NM2 LM0 LM2 LM4 LM5 LM11 IM0 y48.1.toInt f (I2 f)) →
    ∃ q, f_Model_run_h83 VM2 VM1 VM3 VM4 NM0 NM1 NM2 LM0 LM1 LM2 LM3 LM4 LM5 LM6 LM7 LM8 LM9 LM10 LM11 IM0 IM1 y48 (f_Model_run_x83 WM0 LM12) m x L13 L14 L15 I2 I3 = q ∧ q.1 = 1 ∧ q.2.1 = 0 ∧ q.2.2.1 = 2 ∧ ∀ f, f < VM2 → hR_flag VM1 VM2 VM4 NM0 NM1 NM2 LM0 LM2 LM4 LM5 LM11 IM0 y48.1.toInt f (q.2.2.2.2.2.2.2.2.1 f) := by
  obtain ⟨-, ⟨b1, b2, b3, b4, b5, b6, b7⟩, h6, h8, hbits, hbars, hv⟩ := id hs0
  intro m
  induction m with
  | zero => exact fun x L13 L14 L15 I2 I3 h => absurd h (Nat.not_lt_zero _)
  | succ m ih =>
    intro x L13 L14 L15 I2 I3 hm hx h
    rw [f_Model_run_h83]
    unfold f_Model_run_h83B
    by_cases c : VM2 ≤ x
    · rw [if_pos c]
      exact ⟨_, rfl, rfl, rfl, rfl, fun f hf => h f (by omega)⟩
    · rw [if_neg c, hh_bind, hh_bind]
      have k := hM_send (VM1 := VM1) (VM2 := VM2) (VM3 := VM3) (VM4 := VM4) (NM0 := NM0) (NM1 := NM1) (NM2 := NM2) (LM0 := LM0) (LM1 := LM1) (LM2 := LM2) (LM3 := LM3) (LM4 := LM4) (LM5 := LM5) (LM6 := LM6) (LM7 := LM7) (LM8 := LM8) (LM9 := LM9) (LM10 := LM10) (LM11 := LM11) (IM0 := IM0) (IM1 := IM1) (-2) (nI x) (-1) (-2) L13 L14 L15 I3 hv b5 b7 b2 (by omega) (by decide) (fun s hs1 e => absurd e (hv_m2 (by omega)))
      obtain ⟨k1, k2, k3, k4, k5, k6⟩ := k
      have k4' := hn_is_congr (sv' := hz_svp VM1 NM0 NM1 NM2 IM0) (cap' := hI_C VM1 NM0 LM0 LM4 LM5) (want' := fun g => if g = x then hI_w LM2 g - 1 else hI_w LM2 g) (most' := fun w => (LM11 w).toInt) (fun s hs1 hc => by
          have g := hv_gives (NM0 := NM0) hv b5 s
          show (hl_cap VM1 NM0 LM0 LM4 LM5 (-2) s).toInt = hI_C VM1 NM0 LM0 LM4 LM5 s
          unfold hl_cap hI_C
          rw [if_pos hc, if_neg (hv_m2 (by omega)), if_pos hc, h64_sub (by rw [h64_0]; omega) (by rw [h64_0]; omega), h64_0]
          omega) (fun f hf => by
          have g := hv.2.2.1 f
          show (hl_wt LM2 (nI x) (-1) f).toInt = (if f = x then (LM2 f).toInt - 1 else (LM2 f).toInt)
          unfold hl_wt
          by_cases e : f = x
          · rw [if_pos (by rw [e]), if_pos e, h64_add (by rw [hk_m1]; omega) (by rw [hk_m1]; omega), hk_m1]
            omega
          · rw [if_neg (fun z => e (by have := congrArg Int32.toNatClampNeg z; rw [nI_clamp (by omega), nI_clamp (by omega)] at this; exact this)), if_neg e, h64_add (by rw [h64_0]; omega) (by rw [h64_0]; omega), h64_0]
            omega) (fun _ _ => rfl) (fun _ _ _ _ => Iff.rfl) k4
      have hsent : hM_sent (VM1 + VM4) VM2 VM1 (hz_svp VM1 NM0 NM1 NM2 IM0) (hI_C VM1 NM0 LM0 LM4 LM5) (fun g => if g = x then hI_w LM2 g - 1 else hI_w LM2 g) NM2 (fun w => (LM11 w).toInt) _ _ _ _ := ⟨k1, k2, k3, k4', k5, k6⟩
      by_cases e : (f_Model_sendAll (f_Model_lay VM1 VM2 VM3 VM4 NM0 NM1 NM2 LM0 LM1 LM2 LM3 LM4 LM5 LM6 LM7 LM8 LM9 LM10 LM11 L13 L14 IM0 IM1 (-2) (nI x) (-1) (-2)).1 (f_Model_lay VM1 VM2 VM3 VM4 NM0 NM1 NM2 LM0 LM1 LM2 LM3 LM4 LM5 LM6 LM7 LM8 LM9 LM10 LM11 L13 L14 IM0 IM1 (-2) (nI x) (-1) (-2)).2 L15 I3).1 = y48.1
      · rw [if_pos e]
        refine ih (x + 1) _ _ _ _ _ (by omega) (by omega) (fun f hf => ?_)
        by_cases ef : f = x
        · subst ef
          rw [show upd I2 f (nI 1) f = nI 1 from pk_us]
          exact ⟨_, _, _, _, hsent, fun _ => by rw [e], fun _ => by decide⟩
        · rw [show upd I2 x (nI 1) f = I2 f from pk_un ef]
          exact h f (by omega)
      · rw [if_neg e]
        refine ih (x + 1) _ _ _ _ _ (by omega) (by omega) (fun f hf => ?_)
        by_cases ef : f = x
        · subst ef
          rw [show upd I2 f (nI 0) f = nI 0 from pk_us]
          exact ⟨_, _, _, _, hsent, fun z => absurd (show nI 0 = 0 by decide) z, fun z => absurd (Int64.toInt_inj.mp z) e⟩
        · rw [show upd I2 x (nI 0) f = I2 f from pk_un ef]
          exact h f (by omega)
theorem hR_run (hs0 : hI_S VM1 VM4 VM2 NM0 NM1 NM2 LM0 LM1 LM9 LM10 LM2 LM3 LS6 LS7 LS8 IS0 VM3 LM6 LM7 LM8 IY0 VM1 VM2 VM3 VM4 NM0 NM1 NM2 LM0 LM1 LM2 LM3 LM4 LM5 LM6 LM7 LM8 LM9 LM10 LM11 IM0 IM1) (VM5 : Nat) (WM0 : Int64) (LM12 LM13 LM14 LM15 : Nat → Int64) (IM2 IM3 : Nat → Int32) {x1 : Int32} (hst : nI ((VM1 + VM4) * VM2) ≤ x1) :
    ∃ q r, f_Model_run VM1 VM2 VM3 VM4 VM5 WM0 NM0 NM1 NM2 LM0 LM1 LM2 LM3 LM4 LM5 LM6 LM7 LM8 LM9 LM10 LM11 LM12 LM13 LM14 LM15 IM0 IM1 IM2 IM3 x1 = q ∧ q.2.1 = 0 ∧ hM_sent (VM1 + VM4) VM2 VM1 (hz_svp VM1 NM0 NM1 NM2 IM0) (hI_C VM1 NM0 LM0 LM4 LM5) (hI_w LM2) NM2 (fun w => (LM11 w).toInt) (hI_u VM1 VM3 NM2 LM1 LM3 LM6 LM7 LM8 LM9 LM10 IM1 (-2)) (hl_t VM2 (hl_sv VM1 NM0 NM1 NM2 IM0) (hl_un VM1 VM3 NM2 LM1 LM3 LM6 LM7 LM8 LM9 LM10 IM1 (-2)) (VM1 + VM4) 0) (f_Model_lay VM1 VM2 VM3 VM4 NM0 NM1 NM2 LM0 LM1 LM2 LM3 LM4 LM5 LM6 LM7 LM8 LM9 LM10 LM11 LM13 LM14 IM0 IM1 (-2) (-2) 0 (-2)).2 r ∧
      ((r.1.toInt = hs (hI_w LM2) VM2 ∧ q.1 = 0 ∧ q.2.2.1 = 1 ∧ ∃ z, (∀ s f, s < VM1 + VM4 → f < VM2 → (q.2.2.2.2.1 (8 * s + f)).toInt = z s f) ∧
          hz_Opt (VM1 + VM4) VM2 VM1 (hz_svp VM1 NM0 NM1 NM2 IM0) (hI_C VM1 NM0 LM0 LM4 LM5) (hI_w LM2) (hI_u VM1 VM3 NM2 LM1 LM3 LM6 LM7 LM8 LM9 LM10 IM1 (-2)) q.2.2.2.1.toInt z ∧ (∀ s f, s < VM1 + VM4 → f < VM2 → hz_lx (VM1 + VM4) VM2 VM1 (hz_svp VM1 NM0 NM1 NM2 IM0) (hI_C VM1 NM0 LM0 LM4 LM5) (hI_w LM2) (hI_u VM1 VM3 NM2 LM1 LM3 LM6 LM7 LM8 LM9 LM10 IM1 (-2)) q.2.2.2.1.toInt z s f) ∧
          ∀ y, (∀ s f, s < VM1 + VM4 → f < VM2 → 0 ≤ y s f ∧ (¬ hz_svp VM1 NM0 NM1 NM2 IM0 s f → y s f = 0)) → (∀ s, s < VM1 + VM4 → s < VM1 → hrow y VM2 s ≤ hI_C VM1 NM0 LM0 LM4 LM5 s) → (∀ f, f < VM2 → hcol y (VM1 + VM4) f = hI_w LM2 f) → q.2.2.2.1.toInt ≤ hcost (hI_u VM1 VM3 NM2 LM1 LM3 LM6 LM7 LM8 LM9 LM10 IM1 (-2)) y (VM1 + VM4) VM2) ∨
       (¬ r.1.toInt = hs (hI_w LM2) VM2 ∧ q.1 = 1 ∧ q.2.2.1 = 2 ∧ ∀ f, f < VM2 → hR_flag VM1 VM2 VM4 NM0 NM1 NM2 LM0 LM2 LM4 LM5 LM11 IM0 r.1.toInt f (q.2.2.2.2.2.2.2.2.1 f))) := by
  obtain ⟨-, ⟨b1, b2, b3, b4, b5, b6, b7⟩, h6, h8, hbits, hbars, hv⟩ := id hs0
  have base := hR_base hs0 LM13 LM14 LM15 IM3 (-2)
  have hw := hw_wanted (VM2 := VM2) (LM2 := LM2) b2 hv.2.2.1
  unfold f_Model_run
  rw [if_pos hst, if_pos (show nI 0 ≤ 0 by decide), hh_bind, hh_bind, hh_bind]
  by_cases c : (f_Model_sendAll (f_Model_lay VM1 VM2 VM3 VM4 NM0 NM1 NM2 LM0 LM1 LM2 LM3 LM4 LM5 LM6 LM7 LM8 LM9 LM10 LM11 LM13 LM14 IM0 IM1 (-2) (-2) 0 (-2)).1 (f_Model_lay VM1 VM2 VM3 VM4 NM0 NM1 NM2 LM0 LM1 LM2 LM3 LM4 LM5 LM6 LM7 LM8 LM9 LM10 LM11 LM13 LM14 IM0 IM1 (-2) (-2) 0 (-2)).2 LM15 IM3).1 = f_Model_wanted VM2 LM2
  · rw [if_pos c, hh_bind, hh_bind]
    have hfull : (f_Model_sendAll (f_Model_lay VM1 VM2 VM3 VM4 NM0 NM1 NM2 LM0 LM1 LM2 LM3 LM4 LM5 LM6 LM7 LM8 LM9 LM10 LM11 LM13 LM14 IM0 IM1 (-2) (-2) 0 (-2)).1 (f_Model_lay VM1 VM2 VM3 VM4 NM0 NM1 NM2 LM0 LM1 LM2 LM3 LM4 LM5 LM6 LM7 LM8 LM9 LM10 LM11 LM13 LM14 IM0 IM1 (-2) (-2) 0 (-2)).2 LM15 IM3).1.toInt = hs (hI_w LM2) VM2 := by rw [c]; exact hw
    obtain ⟨K, z, p1, p2, p3, p4, p5⟩ := hR_planned hs0 LM12 rfl hfull
    refine ⟨_, _, rfl, rfl, base, Or.inl ⟨hfull, rfl, rfl, z, p2, ?_, ?_, ?_⟩⟩
    · rw [← p1] at p3
      exact p3
    · intro s f h1 h2
      have := p4 s f h1 h2
      rw [← p1] at this
      exact this
    · rw [← p1] at p5
      exact p5
  · rw [if_neg c]
    obtain ⟨q, q0, q1, q2, q3, q4⟩ := hR_83 hs0 (y48 := f_Model_sendAll (f_Model_lay VM1 VM2 VM3 VM4 NM0 NM1 NM2 LM0 LM1 LM2 LM3 LM4 LM5 LM6 LM7 LM8 LM9 LM10 LM11 LM13 LM14 IM0 IM1 (-2) (-2) 0 (-2)).1 (f_Model_lay VM1 VM2 VM3 VM4 NM0 NM1 NM2 LM0 LM1 LM2 LM3 LM4 LM5 LM6 LM7 LM8 LM9 LM10 LM11 LM13 LM14 IM0 IM1 (-2) (-2) 0 (-2)).2 LM15 IM3) (WM0 := WM0) (LM12 := LM12) 9 0 (f_Model_sendAll (f_Model_lay VM1 VM2 VM3 VM4 NM0 NM1 NM2 LM0 LM1 LM2 LM3 LM4 LM5 LM6 LM7 LM8 LM9 LM10 LM11 LM13 LM14 IM0 IM1 (-2) (-2) 0 (-2)).1 (f_Model_lay VM1 VM2 VM3 VM4 NM0 NM1 NM2 LM0 LM1 LM2 LM3 LM4 LM5 LM6 LM7 LM8 LM9 LM10 LM11 LM13 LM14 IM0 IM1 (-2) (-2) 0 (-2)).2 LM15 IM3).2.1 (f_Model_lay VM1 VM2 VM3 VM4 NM0 NM1 NM2 LM0 LM1 LM2 LM3 LM4 LM5 LM6 LM7 LM8 LM9 LM10 LM11 LM13 LM14 IM0 IM1 (-2) (-2) 0 (-2)).2 (f_Model_sendAll (f_Model_lay VM1 VM2 VM3 VM4 NM0 NM1 NM2 LM0 LM1 LM2 LM3 LM4 LM5 LM6 LM7 LM8 LM9 LM10 LM11 LM13 LM14 IM0 IM1 (-2) (-2) 0 (-2)).1 (f_Model_lay VM1 VM2 VM3 VM4 NM0 NM1 NM2 LM0 LM1 LM2 LM3 LM4 LM5 LM6 LM7 LM8 LM9 LM10 LM11 LM13 LM14 IM0 IM1 (-2) (-2) 0 (-2)).2 LM15 IM3).2.2.1 IM2 (f_Model_sendAll (f_Model_lay VM1 VM2 VM3 VM4 NM0 NM1 NM2 LM0 LM1 LM2 LM3 LM4 LM5 LM6 LM7 LM8 LM9 LM10 LM11 LM13 LM14 IM0 IM1 (-2) (-2) 0 (-2)).1 (f_Model_lay VM1 VM2 VM3 VM4 NM0 NM1 NM2 LM0 LM1 LM2 LM3 LM4 LM5 LM6 LM7 LM8 LM9 LM10 LM11 LM13 LM14 IM0 IM1 (-2) (-2) 0 (-2)).2 LM15 IM3).2.2.2 (by omega) (Nat.zero_le _) (fun f hf => absurd hf (Nat.not_lt_zero _))
    exact ⟨q, _, q0, q2, base, Or.inr ⟨fun e => c (Int64.toInt_inj.mp (by rw [e]; exact hw.symm)), q1, q3, q4⟩⟩
end HRUN
