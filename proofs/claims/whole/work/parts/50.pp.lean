/-! ===== plans, in whole numbers: sums over sources and fills, prices that prove a plan cheapest ===== -/
theorem hs_mul (c : Int) (f : Nat → Int) : ∀ n : Nat, hs (fun i => c * f i) n = c * hs f n
  | 0 => by
    show (0 : Int) = c * 0
    rw [Int.mul_zero]
  | n + 1 => by
    show hs (fun i => c * f i) n + c * f n = c * (hs f n + f n)
    rw [hs_mul c f n, Int.mul_add]
theorem hs_nn {f : Nat → Int} {n : Nat} (h : ∀ i, i < n → 0 ≤ f i) : 0 ≤ hs f n := by
  have h1 : hs (fun _ => (0 : Int)) n ≤ hs f n := hs_le h
  rw [hs_zero (fun _ _ => rfl)] at h1
  exact h1
theorem hs_np {f : Nat → Int} {n : Nat} (h : ∀ i, i < n → f i ≤ 0) : hs f n ≤ 0 := by
  have h1 : hs f n ≤ hs (fun _ => (0 : Int)) n := hs_le h
  rw [hs_zero (fun _ _ => rfl)] at h1
  exact h1
theorem hs_pos {f : Nat → Int} {n k : Nat} (h : ∀ i, i < n → 0 ≤ f i) (hk : k < n) (hp : 0 < f k) : 0 < hs f n := by
  have h1 := hs_elem h hk
  omega
theorem hs_each {f : Nat → Int} {n k : Nat} (h : ∀ i, i < n → 0 ≤ f i) (hk : k < n) (hz : hs f n ≤ 0) : f k = 0 := by
  have h1 := hs_elem h hk
  have h2 := h k hk
  omega
theorem hs_one {n k : Nat} (v : Int) (hk : k < n) : hs (fun i => if i = k then v else 0) n = v := by
  have h := hs_upd1 (fun _ => 0) k v hk
  rw [hs_zero (fun _ _ => rfl)] at h
  have e : hs (fun i => if i = k then v else 0) n = hs (fun b => if b = k then (0 : Int) + v else 0) n := hs_congr (fun i _ => by
    by_cases c : i = k
    · rw [if_pos c, if_pos c, Int.zero_add]
    · rw [if_neg c, if_neg c])
  exact (e.trans h).trans (Int.zero_add v)
def h2 (g : Nat → Nat → Int) (n F : Nat) : Int := hs (fun s => hs (fun f => g s f) F) n
def hrow (x : Nat → Nat → Int) (F s : Nat) : Int := hs (fun f => x s f) F
def hcol (x : Nat → Nat → Int) (n f : Nat) : Int := hs (fun s => x s f) n
def hcost (u x : Nat → Nat → Int) (n F : Nat) : Int := h2 (fun s f => u s f * x s f) n F
theorem h2_congr {g g' : Nat → Nat → Int} {n F : Nat} (h : ∀ s f, s < n → f < F → g s f = g' s f) : h2 g n F = h2 g' n F := hs_congr (fun s hs1 => hs_congr (fun f hf => h s f hs1 hf))
theorem h2_add (g g' : Nat → Nat → Int) (n F : Nat) : h2 (fun s f => g s f + g' s f) n F = h2 g n F + h2 g' n F := by
  unfold h2
  rw [← hs_add]
  exact hs_congr (fun s _ => hs_add _ _ _)
theorem h2_sub (g g' : Nat → Nat → Int) (n F : Nat) : h2 (fun s f => g s f - g' s f) n F = h2 g n F - h2 g' n F := by
  unfold h2
  rw [← hs_sub]
  exact hs_congr (fun s _ => hs_sub _ _ _)
theorem h2_nn {g : Nat → Nat → Int} {n F : Nat} (h : ∀ s f, s < n → f < F → 0 ≤ g s f) : 0 ≤ h2 g n F := hs_nn (fun s hs1 => hs_nn (fun f hf => h s f hs1 hf))
theorem h2_each {g : Nat → Nat → Int} {n F s f : Nat} (h : ∀ s f, s < n → f < F → 0 ≤ g s f) (hs1 : s < n) (hf : f < F) (hz : h2 g n F ≤ 0) : g s f = 0 := by
  have h1 := hs_each (f := fun s => hs (fun f => g s f) F) (fun s hs2 => hs_nn (fun f hf2 => h s f hs2 hf2)) hs1 hz
  exact hs_each (f := fun f => g s f) (fun f hf2 => h s f hs1 hf2) hf (by omega)
theorem h2_pos {g : Nat → Nat → Int} {n F s f : Nat} (h : ∀ s f, s < n → f < F → 0 ≤ g s f) (hs1 : s < n) (hf : f < F) (hp : 0 < g s f) : 0 < h2 g n F :=
  hs_pos (f := fun s => hs (fun f => g s f) F) (fun s hs2 => hs_nn (fun f hf2 => h s f hs2 hf2)) hs1 (hs_pos (f := fun f => g s f) (fun f hf2 => h s f hs1 hf2) hf hp)
theorem h2_row (r : Nat → Int) (x : Nat → Nat → Int) (n F : Nat) : h2 (fun s f => r s * x s f) n F = hs (fun s => r s * hrow x F s) n := hs_congr (fun s _ => hs_mul _ _ _)
theorem h2_col (w : Nat → Int) (x : Nat → Nat → Int) (n F : Nat) : h2 (fun s f => w f * x s f) n F = hs (fun f => w f * hcol x n f) F := by
  unfold h2
  rw [hs_comm (fun s f => w f * x s f) F n]
  exact hs_congr (fun f _ => hs_mul _ _ _)
theorem h2_rows (x : Nat → Nat → Int) (n F : Nat) : h2 x n F = hs (fun s => hrow x F s) n := rfl
theorem h2_cols (x : Nat → Nat → Int) (n F : Nat) : h2 x n F = hs (fun f => hcol x n f) F := hs_comm (fun s f => x s f) F n
/-- a cost, by the prices of sources and fills and what is wasted -/
theorem hq_id (w r : Nat → Int) (u x : Nat → Nat → Int) (n F : Nat) : hcost u x n F = hs (fun f => w f * hcol x n f) F - hs (fun s => r s * hrow x F s) n + h2 (fun s f => (u s f + r s - w f) * x s f) n F := by
  rw [← h2_col, ← h2_row, ← h2_sub, ← h2_add]
  refine h2_congr (fun s f _ _ => ?_)
  show u s f * x s f = w f * x s f - r s * x s f + (u s f + r s - w f) * x s f
  rw [← Int.sub_mul, ← Int.add_mul]
  congr 1
  omega
section HQ
variable {n F : Nat} {sv : Nat → Nat → Prop} {u x y : Nat → Nat → Int} {w r cx cy : Nat → Int}
theorem hq_slack0 (hx : ∀ s f, s < n → f < F → 0 ≤ x s f ∧ (0 < x s f → w f = u s f + r s)) : h2 (fun s f => (u s f + r s - w f) * x s f) n F = 0 := by
  refine hs_zero (fun s hs1 => hs_zero (fun f hf => ?_))
  show (u s f + r s - w f) * x s f = 0
  obtain ⟨h1, h2⟩ := hx s f hs1 hf
  by_cases c : 0 < x s f
  · have := h2 c
    rw [show u s f + r s - w f = 0 by omega, Int.zero_mul]
  · rw [show x s f = 0 by omega, Int.mul_zero]
theorem hq_slack (hd : ∀ s f, s < n → f < F → sv s f → w f ≤ u s f + r s) (hy : ∀ s f, s < n → f < F → 0 ≤ y s f ∧ (¬ sv s f → y s f = 0)) : ∀ s f, s < n → f < F → 0 ≤ (u s f + r s - w f) * y s f := by
  intro s f hs1 hf
  obtain ⟨h1, h2⟩ := hy s f hs1 hf
  by_cases c : y s f = 0
  · rw [c, Int.mul_zero]
    exact Int.le_refl _
  · have hsv : sv s f := Classical.byContradiction (fun q => c (h2 q))
    have := hd s f hs1 hf hsv
    exact Int.mul_nonneg (by omega) h1
/-- prices bound every plan's cost from below -/
theorem hq_WD (hd : ∀ s f, s < n → f < F → sv s f → w f ≤ u s f + r s) (hx : ∀ s f, s < n → f < F → 0 ≤ x s f ∧ (0 < x s f → w f = u s f + r s)) (hxr : ∀ s, s < n → r s * hrow x F s = r s * cx s)
    (hy : ∀ s f, s < n → f < F → 0 ≤ y s f ∧ (¬ sv s f → y s f = 0)) (hyr : ∀ s, s < n → r s * hrow y F s ≤ r s * cy s) :
    hs (fun f => w f * (hcol y n f - hcol x n f)) F + hs (fun s => r s * (cx s - cy s)) n ≤ hcost u y n F - hcost u x n F := by
  have e1 := hq_id w r u x n F
  have e2 := hq_id w r u y n F
  rw [hq_slack0 hx] at e1
  have h1 := h2_nn (hq_slack hd hy)
  have e3 : hs (fun f => w f * (hcol y n f - hcol x n f)) F = hs (fun f => w f * hcol y n f) F - hs (fun f => w f * hcol x n f) F := by
    rw [← hs_sub]
    exact hs_congr (fun f _ => Int.mul_sub _ _ _)
  have e4 : hs (fun s => r s * (cx s - cy s)) n = hs (fun s => r s * cx s) n - hs (fun s => r s * cy s) n := by
    rw [← hs_sub]
    exact hs_congr (fun f _ => Int.mul_sub _ _ _)
  have e5 : hs (fun s => r s * hrow x F s) n = hs (fun s => r s * cx s) n := hs_congr hxr
  have e6 : hs (fun s => r s * hrow y F s) n ≤ hs (fun s => r s * cy s) n := hs_le hyr
  omega
/-- a plan that attains the bound uses tight cells alone -/
theorem hq_CS (hd : ∀ s f, s < n → f < F → sv s f → w f ≤ u s f + r s) (hx : ∀ s f, s < n → f < F → 0 ≤ x s f ∧ (0 < x s f → w f = u s f + r s)) (hxr : ∀ s, s < n → r s * hrow x F s = r s * cx s)
    (hy : ∀ s f, s < n → f < F → 0 ≤ y s f ∧ (¬ sv s f → y s f = 0)) (hyr : ∀ s, s < n → r s * hrow y F s ≤ r s * cx s) (hcol1 : ∀ f, f < F → hcol y n f = hcol x n f) (hc : hcost u y n F ≤ hcost u x n F) :
    (∀ s f, s < n → f < F → 0 < y s f → w f = u s f + r s) ∧ ∀ s, s < n → r s * hrow y F s = r s * cx s := by
  have e1 := hq_id w r u x n F
  have e2 := hq_id w r u y n F
  rw [hq_slack0 hx] at e1
  have h1 := h2_nn (hq_slack hd hy)
  have e3 : hs (fun f => w f * hcol y n f) F = hs (fun f => w f * hcol x n f) F := hs_congr (fun f hf => by rw [hcol1 f hf])
  have e5 : hs (fun s => r s * hrow x F s) n = hs (fun s => r s * cx s) n := hs_congr hxr
  have e6 : hs (fun s => r s * hrow y F s) n ≤ hs (fun s => r s * cx s) n := hs_le hyr
  refine ⟨fun s f hs1 hf hp => ?_, fun s hs1 => ?_⟩
  · have hz := h2_each (hq_slack hd hy) hs1 hf (by omega)
    rcases Int.mul_eq_zero.mp hz with q | q
    · omega
    · omega
  · have hz : hs (fun s => r s * cx s - r s * hrow y F s) n ≤ 0 := by
      rw [hs_sub]
      omega
    have := hs_each (f := fun s => r s * cx s - r s * hrow y F s) (fun s hs2 => by have := hyr s hs2; show 0 ≤ r s * cx s - r s * hrow y F s; omega) hs1 hz
    have h3 : r s * cx s - r s * hrow y F s = 0 := this
    omega
/-- a potential that leaves a cell's ring too dear: no plan of the same cost has more there -/
theorem hq_potcut {d : Nat → Nat → Int} {ps pf : Nat → Int} {a0 : Int} {s0 f0 : Nat} (hs0 : s0 < n) (hf0 : f0 < F) (hcol0 : ∀ f, f < F → hcol d n f = 0) (hcost0 : hcost u d n F ≤ 0)
    (hcell : ∀ s f, s < n → f < F → ¬ (s = s0 ∧ f = f0) → 0 ≤ (u s f + ps s - pf f) * d s f) (hrow0 : ∀ s, s < n → (ps s - a0) * hrow d F s ≤ 0) (hd0 : 0 < d s0 f0) (hp0 : 0 < u s0 f0 + ps s0 - pf f0) : False := by
  have e1 := hq_id pf ps u d n F
  have e2 : hs (fun f => pf f * hcol d n f) F = 0 := hs_zero (fun f hf => by show pf f * hcol d n f = 0; rw [hcol0 f hf, Int.mul_zero])
  have e3 : hs (fun s => (ps s - a0) * hrow d F s) n ≤ 0 := hs_np hrow0
  have e4 : hs (fun s => (ps s - a0) * hrow d F s) n = hs (fun s => ps s * hrow d F s) n - a0 * hs (fun s => hrow d F s) n := by
    rw [← hs_mul, ← hs_sub]
    exact hs_congr (fun s _ => Int.sub_mul _ _ _)
  have e5 : hs (fun s => hrow d F s) n = 0 := by
    rw [← h2_rows, h2_cols]
    exact hs_zero hcol0
  rw [e5, Int.mul_zero] at e4
  have h1 : 0 < h2 (fun s f => (u s f + ps s - pf f) * d s f) n F := by
    refine h2_pos (s := s0) (f := f0) (fun s f hs1 hf => ?_) hs0 hf0 (Int.mul_pos hp0 hd0)
    by_cases c : s = s0 ∧ f = f0
    · obtain ⟨rfl, rfl⟩ := c
      exact Int.le_of_lt (Int.mul_pos hp0 hd0)
    · exact hcell s f hs1 hf c
  omega
/-- no ring of free cells from a cell on: no plan of the same cost has more there -/
theorem hq_ringcut {D : Nat → Nat → Int} {rho sig : Nat → Int} {s0 f0 : Nat} (hs0 : s0 < n) (hf0 : f0 < 9) (hrow0 : ∀ s, s < n → hs (fun c => D s c) 9 = 0) (hcol0 : ∀ c, c < 9 → hs (fun s => D s c) n = 0)
    (hr01 : ∀ c, rho c = 0 ∨ rho c = 1) (hs01 : ∀ s, sig s = 0 ∨ sig s = 1) (hbef : ∀ s c, s < s0 → c < 9 → D s c = 0) (hbef2 : ∀ c, c < f0 → D s0 c = 0) (hd0 : 0 < D s0 f0) (hrf : rho f0 = 1)
    (ha : ∀ c, c < 9 → f0 < c → rho c = 1 → 0 ≤ D s0 c) (hb : ∀ s c, s0 < s → s < n → c < 9 → rho c = 1 → sig s = 0 → 0 ≤ D s c) (hc : ∀ s c, s0 < s → s < n → c < 9 → sig s = 1 → rho c = 0 → D s c ≤ 0) : False := by
  have e1 : hs (fun s => hs (fun c => rho c * D s c) 9) n = 0 := by
    rw [hs_comm (fun s c => rho c * D s c) 9 n]
    refine hs_zero (fun c hc9 => ?_)
    show hs (fun s => rho c * D s c) n = 0
    rw [hs_mul, hcol0 c hc9, Int.mul_zero]
  have e2 : 0 < hs (fun s => hs (fun c => rho c * D s c) 9) n := by
    refine hs_pos (k := s0) (fun s hs1 => ?_) hs0 ?_
    · show 0 ≤ hs (fun c => rho c * D s c) 9
      rcases Nat.lt_trichotomy s s0 with q | q | q
      · exact hs_nn (fun c hc9 => by rw [hbef s c q hc9, Int.mul_zero]; exact Int.le_refl _)
      · subst q
        refine hs_nn (fun c hc9 => ?_)
        rcases hr01 c with e | e
        · rw [e, Int.zero_mul]; exact Int.le_refl _
        · rw [e, Int.one_mul]
          rcases Nat.lt_trichotomy c f0 with q | q | q
          · rw [hbef2 c q]; exact Int.le_refl _
          · subst q; omega
          · exact ha c hc9 q e
      · rcases hs01 s with e | e
        · refine hs_nn (fun c hc9 => ?_)
          rcases hr01 c with e' | e'
          · rw [e', Int.zero_mul]; exact Int.le_refl _
          · rw [e', Int.one_mul]
            exact hb s c q hs1 hc9 e' e
        · have h3 : hs (fun c => rho c * D s c) 9 = hs (fun c => rho c * D s c) 9 - hs (fun c => D s c) 9 := by rw [hrow0 s hs1]; omega
          rw [h3, ← hs_sub]
          refine hs_nn (fun c hc9 => ?_)
          rcases hr01 c with e' | e'
          · rw [e', Int.zero_mul]
            have := hc s c q hs1 hc9 e e'
            omega
          · rw [e', Int.one_mul]; omega
    · refine hs_pos (f := fun c => rho c * D s0 c) (k := f0) (fun c hc9 => ?_) hf0 (by show 0 < rho f0 * D s0 f0; rw [hrf, Int.one_mul]; exact hd0)
      show 0 ≤ rho c * D s0 c
      rcases hr01 c with e | e
      · rw [e, Int.zero_mul]; exact Int.le_refl _
      · rw [e, Int.one_mul]
        rcases Nat.lt_trichotomy c f0 with q | q | q
        · rw [hbef2 c q]; exact Int.le_refl _
        · subst q; omega
        · exact ha c hc9 q e
  omega
end HQ
/-! ===== weeks: cuts of the network ===== -/
def hwk (wk : Nat → Nat) (x : Nat → Nat → Int) (n F w : Nat) : Int := hs (fun f => if wk f = w then hcol x n f else 0) F
theorem hq_week {wk : Nat → Nat} {F : Nat} (h : ∀ f, f < F → wk f < 12) (g c : Nat → Int) : hs (fun w => g w * hs (fun f => if wk f = w then c f else 0) F) 12 = hs (fun f => g (wk f) * c f) F := by
  have e1 : hs (fun w => g w * hs (fun f => if wk f = w then c f else 0) F) 12 = hs (fun w => hs (fun f => g w * (if wk f = w then c f else 0)) F) 12 := hs_congr (fun w _ => (hs_mul _ _ _).symm)
  rw [e1, hs_comm (fun w f => g w * (if wk f = w then c f else 0)) F 12]
  refine hs_congr (fun f hf => ?_)
  show hs (fun w => g w * (if wk f = w then c f else 0)) 12 = g (wk f) * c f
  rw [← hs_one (n := 12) (g (wk f) * c f) (h f hf)]
  refine hs_congr (fun w _ => ?_)
  by_cases e : w = wk f
  · subst e
    rw [if_pos rfl, if_pos rfl]
  · rw [if_neg e, if_neg (fun q => e q.symm), Int.mul_zero]
/-- a flow's value, by the four sorts of arcs -/
theorem hq_cutid {wk : Nat → Nat} {n F : Nat} (h : ∀ f, f < F → wk f < 12) (t e : Int) (sg ph om : Nat → Int) (d : Nat → Nat → Int) :
    (t - e) * h2 d n F = hs (fun s => (t - sg s) * hrow d F s) n + h2 (fun s f => (sg s - ph f) * d s f) n F + hs (fun f => (ph f - om (wk f)) * hcol d n f) F + hs (fun w => (om w - e) * hwk wk d n F w) 12 := by
  have e4 : hs (fun w => (om w - e) * hwk wk d n F w) 12 = hs (fun f => (om (wk f) - e) * hcol d n f) F := hq_week h (fun w => om w - e) (fun f => hcol d n f)
  have e2 : h2 (fun s f => (sg s - ph f) * d s f) n F = hs (fun s => sg s * hrow d F s) n - hs (fun f => ph f * hcol d n f) F := by
    rw [← h2_row, ← h2_col, ← h2_sub]
    exact h2_congr (fun s f _ _ => Int.sub_mul _ _ _)
  have e1 : hs (fun s => (t - sg s) * hrow d F s) n = t * hs (fun s => hrow d F s) n - hs (fun s => sg s * hrow d F s) n := by
    rw [← hs_mul, ← hs_sub]
    exact hs_congr (fun s _ => Int.sub_mul _ _ _)
  have e3 : hs (fun f => (ph f - om (wk f)) * hcol d n f) F = hs (fun f => ph f * hcol d n f) F - hs (fun f => om (wk f) * hcol d n f) F := by
    rw [← hs_sub]
    exact hs_congr (fun s _ => Int.sub_mul _ _ _)
  have e5 : hs (fun f => (om (wk f) - e) * hcol d n f) F = hs (fun f => om (wk f) * hcol d n f) F - e * hs (fun f => hcol d n f) F := by
    rw [← hs_mul, ← hs_sub]
    exact hs_congr (fun s _ => Int.sub_mul _ _ _)
  rw [e4, e2, e1, e3, e5, Int.sub_mul, ← h2_rows, ← h2_cols]
  omega
