/-! ===== plans within bounds, sets that nothing leaves ===== -/
def h01 (f : Nat → Int) : Prop := ∀ i, f i = 0 ∨ f i = 1
def hPP (n F cuts : Nat) (sv : Nat → Nat → Prop) (cap want : Nat → Int) (wk : Nat → Nat) (most : Nat → Int) (x : Nat → Nat → Int) : Prop :=
  (∀ s f, s < n → f < F → 0 ≤ x s f ∧ (¬ sv s f → x s f = 0)) ∧ (∀ s, s < n → s < cuts → hrow x F s ≤ cap s) ∧ (∀ f, f < F → hcol x n f ≤ want f) ∧ ∀ w, w < 12 → hwk wk x n F w ≤ most w
def hcl (n F cuts : Nat) (sv : Nat → Nat → Prop) (cap want : Nat → Int) (wk : Nat → Nat) (most : Nat → Int) (x : Nat → Nat → Int) (t e : Int) (sg ph om : Nat → Int) : Prop :=
  (∀ s, s < n → (t = 1 → sg s = 0 → s < cuts ∧ hrow x F s = cap s) ∧ (t = 0 → sg s = 1 → hrow x F s = 0)) ∧
  (∀ s f, s < n → f < F → (sg s = 1 → ph f = 0 → ¬ sv s f) ∧ (sg s = 0 → ph f = 1 → x s f = 0)) ∧
  (∀ f, f < F → (ph f = 1 → om (wk f) = 0 → hcol x n f = want f) ∧ (ph f = 0 → om (wk f) = 1 → hcol x n f = 0)) ∧
  ∀ w, w < 12 → (om w = 1 → e = 0 → hwk wk x n F w = most w) ∧ (om w = 0 → e = 1 → hwk wk x n F w = 0)
def hgap (wk : Nat → Nat) (ph om want wanty : Nat → Int) (f : Nat) : Int := if ph f = 1 ∧ om (wk f) = 0 then wanty f - want f else 0
theorem hrow_sub (x y : Nat → Nat → Int) (F s : Nat) : hrow (fun s f => y s f - x s f) F s = hrow y F s - hrow x F s := hs_sub _ _ _
theorem hcol_sub (x y : Nat → Nat → Int) (n f : Nat) : hcol (fun s f => y s f - x s f) n f = hcol y n f - hcol x n f := hs_sub _ _ _
theorem hwk_sub (wk : Nat → Nat) (x y : Nat → Nat → Int) (n F w : Nat) : hwk wk (fun s f => y s f - x s f) n F w = hwk wk y n F w - hwk wk x n F w := by
  unfold hwk
  rw [← hs_sub]
  refine hs_congr (fun f _ => ?_)
  rw [hcol_sub]
  by_cases c : wk f = w
  · rw [if_pos c, if_pos c, if_pos c]
  · rw [if_neg c, if_neg c, if_neg c]; omega
theorem hrow_nn {n F : Nat} {x : Nat → Nat → Int} (h : ∀ s f, s < n → f < F → 0 ≤ x s f) {s : Nat} (hs1 : s < n) : 0 ≤ hrow x F s := hs_nn (fun f hf => h s f hs1 hf)
theorem hcol_nn {n F : Nat} {x : Nat → Nat → Int} (h : ∀ s f, s < n → f < F → 0 ≤ x s f) {f : Nat} (hf : f < F) : 0 ≤ hcol x n f := hs_nn (fun s hs1 => h s f hs1 hf)
theorem hwk_nn {n F : Nat} {wk : Nat → Nat} {x : Nat → Nat → Int} (h : ∀ s f, s < n → f < F → 0 ≤ x s f) (w : Nat) : 0 ≤ hwk wk x n F w := by
  refine hs_nn (fun f hf => ?_)
  show 0 ≤ (if wk f = w then hcol x n f else 0)
  by_cases c : wk f = w
  · rw [if_pos c]; exact hcol_nn h hf
  · rw [if_neg c]; exact Int.le_refl _
section HCUT
variable {n F cuts : Nat} {sv : Nat → Nat → Prop} {cap want wanty : Nat → Int} {wk : Nat → Nat} {most : Nat → Int} {x y : Nat → Nat → Int} {t e : Int} {sg ph om : Nat → Int}
theorem hq_cut0 (hwk12 : ∀ f, f < F → wk f < 12) (ht : t = 0 ∨ t = 1) (he : e = 0 ∨ e = 1) (h1 : h01 sg) (h2' : h01 ph) (h3 : h01 om) (hx : hPP n F cuts sv cap want wk most x) (hc : hcl n F cuts sv cap want wk most x t e sg ph om) (hy : hPP n F cuts sv cap wanty wk most y) :
    (t - e) * (h2 y n F - h2 x n F) ≤ hs (hgap wk ph om want wanty) F ∧ (hs (hgap wk ph om want wanty) F ≤ (t - e) * (h2 y n F - h2 x n F) → hcl n F cuts sv cap wanty wk most y t e sg ph om) := by
  obtain ⟨hx1, hx2, hx3, hx4⟩ := hx
  obtain ⟨hy1, hy2, hy3, hy4⟩ := hy
  obtain ⟨c1, c2, c3, c4⟩ := hc
  have xn : ∀ s f, s < n → f < F → 0 ≤ x s f := fun s f a b => (hx1 s f a b).1
  have yn : ∀ s f, s < n → f < F → 0 ≤ y s f := fun s f a b => (hy1 s f a b).1
  have id1 := hq_cutid (n := n) hwk12 t e sg ph om (fun s f => y s f - x s f)
  rw [h2_sub] at id1
  have A : ∀ s, s < n → 0 ≤ 0 - (t - sg s) * hrow (fun s f => y s f - x s f) F s := by
    intro s hs1
    rw [hrow_sub]
    have ry := hrow_nn yn hs1
    have k := c1 s hs1
    rcases ht with e1 | e1 <;> rcases h1 s with e2 | e2 <;> rw [e1, e2]
    · omega
    · have := k.2 e1 e2; omega
    · have a := k.1 e1 e2
      have b := hy2 s hs1 a.1
      omega
    · omega
  have B : ∀ s f, s < n → f < F → 0 ≤ 0 - (sg s - ph f) * (y s f - x s f) := by
    intro s f hs1 hf
    have k := c2 s f hs1 hf
    have a := hx1 s f hs1 hf
    have b := hy1 s f hs1 hf
    rcases h1 s with e1 | e1 <;> rcases h2' f with e2 | e2 <;> rw [e1, e2]
    · omega
    · have := k.2 e1 e2; omega
    · have q := k.1 e1 e2
      have := a.2 q
      have := b.2 q
      omega
    · omega
  have Cc : ∀ f, f < F → 0 ≤ hgap wk ph om want wanty f - (ph f - om (wk f)) * hcol (fun s f => y s f - x s f) n f := by
    intro f hf
    rw [hcol_sub]
    have k := c3 f hf
    have a := hy3 f hf
    have b := hcol_nn yn hf
    unfold hgap
    rcases h2' f with e1 | e1 <;> rcases h3 (wk f) with e2 | e2 <;> rw [e1, e2]
    · rw [if_neg (by omega)]; omega
    · have := k.2 e1 e2
      rw [if_neg (by omega)]; omega
    · have := k.1 e1 e2
      rw [if_pos ⟨rfl, rfl⟩]; omega
    · rw [if_neg (by omega)]; omega
  have Dd : ∀ w, w < 12 → 0 ≤ 0 - (om w - e) * hwk wk (fun s f => y s f - x s f) n F w := by
    intro w hw
    rw [hwk_sub]
    have k := c4 w hw
    have a := hy4 w hw
    have b := hwk_nn (wk := wk) yn w
    rcases h3 w with e1 | e1 <;> rcases he with e2 | e2 <;> rw [e1, e2]
    · omega
    · have := k.2 e1 e2; omega
    · have := k.1 e1 e2; omega
    · omega
  have sA := hs_nn A
  have sB := h2_nn B
  have sC := hs_nn Cc
  have sD := hs_nn Dd
  have z0 : hs (fun _ => (0 : Int)) n = 0 := hs_zero (fun _ _ => rfl)
  have z2 : h2 (fun _ _ => (0 : Int)) n F = 0 := hs_zero (fun _ _ => hs_zero (fun _ _ => rfl))
  have z3 : hs (fun _ => (0 : Int)) 12 = 0 := hs_zero (fun _ _ => rfl)
  have qA := hs_sub (fun _ => 0) (fun s => (t - sg s) * hrow (fun s f => y s f - x s f) F s) n
  have qB := h2_sub (fun _ _ => 0) (fun s f => (sg s - ph f) * (y s f - x s f)) n F
  have qC := hs_sub (hgap wk ph om want wanty) (fun f => (ph f - om (wk f)) * hcol (fun s f => y s f - x s f) n f) F
  have qD := hs_sub (fun _ => 0) (fun w => (om w - e) * hwk wk (fun s f => y s f - x s f) n F w) 12
  refine ⟨by omega, fun hle => ?_⟩
  have fA : hs (fun s => 0 - (t - sg s) * hrow (fun s f => y s f - x s f) F s) n ≤ 0 := by omega
  have fB : h2 (fun s f => 0 - (sg s - ph f) * (y s f - x s f)) n F ≤ 0 := by omega
  have fC : hs (fun f => hgap wk ph om want wanty f - (ph f - om (wk f)) * hcol (fun s f => y s f - x s f) n f) F ≤ 0 := by omega
  have fD : hs (fun w => 0 - (om w - e) * hwk wk (fun s f => y s f - x s f) n F w) 12 ≤ 0 := by omega
  refine ⟨fun s hs1 => ?_, fun s f hs1 hf => ?_, fun f hf => ?_, fun w hw => ?_⟩
  · have k := c1 s hs1
    have q : 0 - (t - sg s) * hrow (fun s f => y s f - x s f) F s = 0 := hs_each A hs1 fA
    rw [hrow_sub] at q
    refine ⟨fun e1 e2 => ?_, fun e1 e2 => ?_⟩
    · have := k.1 e1 e2
      rw [e1, e2] at q
      exact ⟨this.1, by omega⟩
    · have := k.2 e1 e2
      rw [e1, e2] at q
      omega
  · have k := c2 s f hs1 hf
    have q : 0 - (sg s - ph f) * (y s f - x s f) = 0 := h2_each B hs1 hf fB
    refine ⟨k.1, fun e1 e2 => ?_⟩
    have := k.2 e1 e2
    rw [e1, e2] at q
    omega
  · have k := c3 f hf
    have q : hgap wk ph om want wanty f - (ph f - om (wk f)) * hcol (fun s f => y s f - x s f) n f = 0 := hs_each Cc hf fC
    rw [hcol_sub] at q
    unfold hgap at q
    refine ⟨fun e1 e2 => ?_, fun e1 e2 => ?_⟩
    · have := k.1 e1 e2
      rw [e1, e2, if_pos ⟨rfl, rfl⟩] at q
      omega
    · have := k.2 e1 e2
      rw [e1, e2, if_neg (by omega)] at q
      omega
  · have k := c4 w hw
    have q : 0 - (om w - e) * hwk wk (fun s f => y s f - x s f) n F w = 0 := hs_each Dd hw fD
    rw [hwk_sub] at q
    refine ⟨fun e1 e2 => ?_, fun e1 e2 => ?_⟩
    · have := k.1 e1 e2
      rw [e1, e2] at q
      omega
    · have := k.2 e1 e2
      rw [e1, e2] at q
      omega
end HCUT
/-! ===== a network's rests, read as a plan ===== -/
theorem hs_split (g : Nat → Int) (m : Nat) : ∀ k, hs g (m + k) = hs g m + hs (fun i => g (m + i)) k
  | 0 => (Int.add_zero _).symm
  | k + 1 => by
    show hs g (m + k) + g (m + k) = hs g m + (hs (fun i => g (m + i)) k + g (m + k))
    rw [hs_split g m k]
    omega
theorem hs_trunc {g : Nat → Int} {k m : Nat} (hkm : k ≤ m) (h : ∀ i, k ≤ i → i < m → g i = 0) : hs g m = hs g k := by
  have e := hs_split g k (m - k)
  rw [show k + (m - k) = m by omega] at e
  rw [e, hs_zero (fun i hi => h (k + i) (by omega) (by omega))]
  omega
/-- what goes out of a node, by the five sorts of nodes -/
def ho5 (M : Nat → Nat → Int) (a : Nat) : Int := M a 0 + hs (fun s => M a (1 + s)) 12 + hs (fun f => M a (13 + f)) 8 + hs (fun w => M a (21 + w)) 12 + M a 33
theorem ho_5 (R : Nat → Int64) (a : Nat) : ho R a = ho5 (fun a b => (R (34 * a + b)).toInt) a := by
  unfold ho ho5
  have e1 := hs_split (fun b => (R (34 * a + b)).toInt) 1 33
  have e2 := hs_split (fun b => (R (34 * a + (1 + b))).toInt) 12 21
  have e3 := hs_split (fun b => (R (34 * a + (1 + (12 + b)))).toInt) 8 13
  have e4 := hs_split (fun b => (R (34 * a + (1 + (12 + (8 + b))))).toInt) 12 1
  have e0 : hs (fun b => (R (34 * a + b)).toInt) 1 = (R (34 * a + 0)).toInt := Int.zero_add _
  have e5 : hs (fun b => (R (34 * a + (1 + (12 + (8 + (12 + b)))))).toInt) 1 = (R (34 * a + 33)).toInt := Int.zero_add _
  have e6 : hs (fun b => (R (34 * a + (1 + (12 + b)))).toInt) 8 = hs (fun f => (R (34 * a + (13 + f))).toInt) 8 := hs_congr (fun i _ => by rw [show 1 + (12 + i) = 13 + i by omega])
  have e7 : hs (fun b => (R (34 * a + (1 + (12 + (8 + b))))).toInt) 12 = hs (fun f => (R (34 * a + (21 + f))).toInt) 12 := hs_congr (fun i _ => by rw [show 1 + (12 + (8 + i)) = 21 + i by omega])
  show hs (fun b => (R (34 * a + b)).toInt) (1 + 33) = (R (34 * a + 0)).toInt + hs (fun s => (R (34 * a + (1 + s))).toInt) 12 + hs (fun f => (R (34 * a + (13 + f))).toInt) 8 + hs (fun w => (R (34 * a + (21 + w))).toInt) 12 + (R (34 * a + 33)).toInt
  rw [e1, show hs (fun i => (R (34 * a + (1 + i))).toInt) 33 = hs (fun i => (R (34 * a + (1 + i))).toInt) (12 + 21) from rfl, e2, show hs (fun i => (R (34 * a + (1 + (12 + i)))).toInt) 21 = hs (fun i => (R (34 * a + (1 + (12 + i)))).toInt) (8 + 13) from rfl, e3, show hs (fun i => (R (34 * a + (1 + (12 + (8 + i))))).toInt) 13 = hs (fun i => (R (34 * a + (1 + (12 + (8 + i))))).toInt) (12 + 1) from rfl, e4, e0, e5, e6, e7]
  omega
/-- the laid network, in whole numbers -/
def hnA (n F : Nat) (c0 : Nat → Int) (c1 : Nat → Nat → Int) (want : Nat → Int) (wk : Nat → Nat) (c3 : Nat → Int) (a b : Nat) : Int :=
  if a = 0 then (if 1 ≤ b ∧ b ≤ 12 then c0 (b - 1) else 0) else if a ≤ 12 then (if 13 ≤ b ∧ b ≤ 20 then c1 (a - 1) (b - 13) else 0) else if a ≤ 20 then (if 21 ≤ b ∧ b ≤ 32 then (if a - 13 < F ∧ b - 21 = wk (a - 13) then want (a - 13) else 0) else 0) else if a ≤ 32 then (if b = 33 then c3 (a - 21) else 0) else 0
section HNET
variable {n F : Nat} {c0 : Nat → Int} {c1 : Nat → Nat → Int} {want : Nat → Int} {wk : Nat → Nat} {c3 : Nat → Int} {A B : Nat → Nat → Int} {v : Int}
theorem hn_read (hA : ∀ a b, a < 34 → b < 34 → A a b = hnA n F c0 c1 want wk c3 a b) (hn : n ≤ 12) (hF : F ≤ 8) (hwk12 : ∀ f, f < F → wk f < 12) (hz : ∀ s f, ¬ (s < n ∧ f < F) → c1 s f = 0) (hz0 : ∀ s, n ≤ s → c0 s = 0)
    (hB : ∀ a b, a < 34 → b < 34 → 0 ≤ B a b) (hpair : ∀ a b, a < 34 → b < 34 → B a b + B b a = A a b + A b a) (hcons : ∀ a, a < 34 → ho5 B a = ho5 A a + (if a = 33 then v else 0) - (if a = 0 then v else 0)) :
    (∀ s f, s < 12 → f < 8 → B (1 + s) (13 + f) = c1 s f - B (13 + f) (1 + s)) ∧
    (∀ s, s < n → B (1 + s) 0 = hrow (fun s f => B (13 + f) (1 + s)) F s ∧ B 0 (1 + s) = c0 s - hrow (fun s f => B (13 + f) (1 + s)) F s) ∧
    (∀ f, f < F → B (21 + wk f) (13 + f) = hcol (fun s f => B (13 + f) (1 + s)) n f ∧ B (13 + f) (21 + wk f) = want f - hcol (fun s f => B (13 + f) (1 + s)) n f) ∧
    (∀ w, w < 12 → B 33 (21 + w) = hwk wk (fun s f => B (13 + f) (1 + s)) n F w ∧ B (21 + w) 33 = c3 w - hwk wk (fun s f => B (13 + f) (1 + s)) n F w) ∧
    v = h2 (fun s f => B (13 + f) (1 + s)) n F := by
  have a00 : ∀ b, b < 34 → A 0 b = if 1 ≤ b ∧ b ≤ 12 then c0 (b - 1) else 0 := fun b hb => by rw [hA 0 b (by omega) hb]; unfold hnA; rw [if_pos rfl]
  have a1 : ∀ s b, s < 12 → b < 34 → A (1 + s) b = if 13 ≤ b ∧ b ≤ 20 then c1 s (b - 13) else 0 := fun s b h1 hb => by
    rw [hA _ b (by omega) hb]; unfold hnA; rw [if_neg (by omega), if_pos (by omega), show 1 + s - 1 = s by omega]
  have a2 : ∀ f b, f < 8 → b < 34 → A (13 + f) b = if 21 ≤ b ∧ b ≤ 32 then (if f < F ∧ b - 21 = wk f then want f else 0) else 0 := fun f b h1 hb => by
    rw [hA _ b (by omega) hb]; unfold hnA; rw [if_neg (by omega), if_neg (by omega), if_pos (by omega), show 13 + f - 13 = f by omega]
  have a3 : ∀ w b, w < 12 → b < 34 → A (21 + w) b = if b = 33 then c3 w else 0 := fun w b h1 hb => by
    rw [hA _ b (by omega) hb]; unfold hnA; rw [if_neg (by omega), if_neg (by omega), if_neg (by omega), if_pos (by omega), show 21 + w - 21 = w by omega]
  have a4 : ∀ b, b < 34 → A 33 b = 0 := fun b hb => by
    rw [hA _ b (by omega) hb]; unfold hnA; rw [if_neg (by omega), if_neg (by omega), if_neg (by omega), if_neg (by omega)]
  -- the pairs
  have nn : ∀ a b, a < 34 → b < 34 → A a b + A b a = 0 → B a b = 0 := by
    intro a b ha hb h
    have h1 := hB a b ha hb
    have h2 := hB b a hb ha
    have h3 := hpair a b ha hb
    omega
  have p1 : ∀ s f, s < 12 → f < 8 → B (1 + s) (13 + f) = c1 s f - B (13 + f) (1 + s) := by
    intro s f hs1 hf
    have h := hpair (1 + s) (13 + f) (by omega) (by omega)
    rw [a1 s _ hs1 (by omega), a2 f _ hf (by omega), if_pos (by omega), if_neg (by omega), show 13 + f - 13 = f by omega] at h
    omega
  have xz : ∀ s f, s < 12 → f < 8 → ¬ (s < n ∧ f < F) → B (13 + f) (1 + s) = 0 := by
    intro s f hs1 hf hc
    have h := p1 s f hs1 hf
    have h1 := hB (1 + s) (13 + f) (by omega) (by omega)
    have h2 := hB (13 + f) (1 + s) (by omega) (by omega)
    rw [hz s f hc] at h
    omega
  have rowT : ∀ s, s < 12 → hs (fun f => B (13 + f) (1 + s)) 8 = hrow (fun s f => B (13 + f) (1 + s)) F s := fun s hs1 => hs_trunc hF (fun f h1 h2 => xz s f hs1 h2 (by omega))
  have colT : ∀ f, f < 8 → hs (fun s => B (13 + f) (1 + s)) 12 = hcol (fun s f => B (13 + f) (1 + s)) n f := fun f hf => hs_trunc hn (fun s h1 h2 => xz s f h2 hf (by omega))
  -- rows
  have q1 : ∀ s, s < 12 → B (1 + s) 0 = hrow (fun s f => B (13 + f) (1 + s)) F s := by
    intro s hs1
    have h := hcons (1 + s) (by omega)
    rw [if_neg (by omega), if_neg (by omega)] at h
    unfold ho5 at h
    have z1 : hs (fun s' => B (1 + s) (1 + s')) 12 = 0 := hs_zero (fun s' h' => nn _ _ (by omega) (by omega) (by rw [a1 s _ hs1 (by omega), a1 s' _ h' (by omega), if_neg (by omega), if_neg (by omega)]; rfl))
    have z2 : hs (fun w => B (1 + s) (21 + w)) 12 = 0 := hs_zero (fun w h' => nn _ _ (by omega) (by omega) (by rw [a1 s _ hs1 (by omega), a3 w _ h' (by omega), if_neg (by omega), if_neg (by omega)]; rfl))
    have z3 : B (1 + s) 33 = 0 := nn _ _ (by omega) (by omega) (by rw [a1 s _ hs1 (by omega), a4 _ (by omega), if_neg (by omega)]; rfl)
    have y1 : hs (fun s' => A (1 + s) (1 + s')) 12 = 0 := hs_zero (fun s' h' => by rw [a1 s _ hs1 (by omega), if_neg (by omega)])
    have y2 : hs (fun w => A (1 + s) (21 + w)) 12 = 0 := hs_zero (fun w h' => by rw [a1 s _ hs1 (by omega), if_neg (by omega)])
    have y3 : A (1 + s) 33 = 0 := by rw [a1 s _ hs1 (by omega), if_neg (by omega)]
    have y4 : A (1 + s) 0 = 0 := by rw [a1 s _ hs1 (by omega), if_neg (by omega)]
    have y5 : hs (fun f => A (1 + s) (13 + f)) 8 = hs (fun f => c1 s f) 8 := hs_congr (fun f hf => by rw [a1 s _ hs1 (by omega), if_pos (by omega), show 13 + f - 13 = f by omega])
    have z5 : hs (fun f => B (1 + s) (13 + f)) 8 = hs (fun f => c1 s f) 8 - hs (fun f => B (13 + f) (1 + s)) 8 := by
      rw [← hs_sub]
      exact hs_congr (fun f hf => p1 s f hs1 hf)
    rw [z1, z2, z3, y1, y2, y3, y4, y5, z5, rowT s hs1] at h
    omega
  have q1' : ∀ s, s < 12 → B 0 (1 + s) = c0 s - hrow (fun s f => B (13 + f) (1 + s)) F s := by
    intro s hs1
    have h := hpair 0 (1 + s) (by omega) (by omega)
    rw [a00 _ (by omega), if_pos (by omega), a1 s _ hs1 (by omega), if_neg (by omega), q1 s hs1, show 1 + s - 1 = s by omega] at h
    omega
  -- columns
  have q2z : ∀ f w, f < 8 → w < 12 → ¬ (f < F ∧ w = wk f) → B (13 + f) (21 + w) = 0 ∧ B (21 + w) (13 + f) = 0 := by
    intro f w hf hw hc
    have e : A (13 + f) (21 + w) = 0 := by rw [a2 f _ hf (by omega), if_pos (by omega), if_neg (by omega)]
    have e2 : A (21 + w) (13 + f) = 0 := by rw [a3 w _ hw (by omega), if_neg (by omega)]
    exact ⟨nn _ _ (by omega) (by omega) (by rw [e, e2]; rfl), nn _ _ (by omega) (by omega) (by rw [e, e2]; rfl)⟩
  have q2 : ∀ f, f < F → B (13 + f) (21 + wk f) = want f - hcol (fun s f => B (13 + f) (1 + s)) n f := by
    intro f hfF
    have hf : f < 8 := by omega
    have hw := hwk12 f hfF
    have h := hcons (13 + f) (by omega)
    rw [if_neg (by omega), if_neg (by omega)] at h
    unfold ho5 at h
    have z0 : B (13 + f) 0 = 0 := nn _ _ (by omega) (by omega) (by rw [a2 f _ hf (by omega), a00 _ (by omega), if_neg (by omega), if_neg (by omega)]; rfl)
    have z1 : hs (fun f' => B (13 + f) (13 + f')) 8 = 0 := hs_zero (fun f' h' => nn _ _ (by omega) (by omega) (by rw [a2 f _ hf (by omega), a2 f' _ h' (by omega), if_neg (by omega), if_neg (by omega)]; rfl))
    have z3 : B (13 + f) 33 = 0 := nn _ _ (by omega) (by omega) (by rw [a2 f _ hf (by omega), a4 _ (by omega), if_neg (by omega)]; rfl)
    have y0 : A (13 + f) 0 = 0 := by rw [a2 f _ hf (by omega), if_neg (by omega)]
    have y1 : hs (fun s' => A (13 + f) (1 + s')) 12 = 0 := hs_zero (fun s' h' => by rw [a2 f _ hf (by omega), if_neg (by omega)])
    have y2 : hs (fun f' => A (13 + f) (13 + f')) 8 = 0 := hs_zero (fun s' h' => by rw [a2 f _ hf (by omega), if_neg (by omega)])
    have y3 : A (13 + f) 33 = 0 := by rw [a2 f _ hf (by omega), if_neg (by omega)]
    have y4 : hs (fun w => A (13 + f) (21 + w)) 12 = want f := by
      rw [← hs_one (n := 12) (want f) hw]
      refine hs_congr (fun w hw' => ?_)
      rw [a2 f _ hf (by omega), if_pos (by omega), show 21 + w - 21 = w by omega]
      by_cases c : w = wk f
      · rw [if_pos c, if_pos ⟨hfF, c⟩]
      · rw [if_neg c, if_neg (fun q => c q.2)]
    have z4 : hs (fun w => B (13 + f) (21 + w)) 12 = B (13 + f) (21 + wk f) := by
      rw [← hs_one (n := 12) (B (13 + f) (21 + wk f)) hw]
      refine hs_congr (fun w hw' => ?_)
      by_cases c : w = wk f
      · rw [if_pos c, c]
      · rw [if_neg c]
        exact (q2z f w hf hw' (fun q => c q.2)).1
    rw [z0, z1, z3, y0, y1, y2, y3, y4, z4, colT f hf] at h
    omega
  have q2' : ∀ f, f < F → B (21 + wk f) (13 + f) = hcol (fun s f => B (13 + f) (1 + s)) n f := by
    intro f hfF
    have hw := hwk12 f hfF
    have h := hpair (13 + f) (21 + wk f) (by omega) (by omega)
    rw [q2 f hfF, a2 f _ (by omega) (by omega), if_pos (by omega), if_pos ⟨hfF, by omega⟩, a3 _ _ hw (by omega), if_neg (by omega)] at h
    omega
  -- weeks
  have q3 : ∀ w, w < 12 → B (21 + w) 33 = c3 w - hwk wk (fun s f => B (13 + f) (1 + s)) n F w := by
    intro w hw
    have h := hcons (21 + w) (by omega)
    rw [if_neg (by omega), if_neg (by omega)] at h
    unfold ho5 at h
    have z0 : B (21 + w) 0 = 0 := nn _ _ (by omega) (by omega) (by rw [a3 w _ hw (by omega), a00 _ (by omega), if_neg (by omega), if_neg (by omega)]; rfl)
    have z1 : hs (fun s => B (21 + w) (1 + s)) 12 = 0 := hs_zero (fun s h' => nn _ _ (by omega) (by omega) (by rw [a3 w _ hw (by omega), a1 s _ h' (by omega), if_neg (by omega), if_neg (by omega)]; rfl))
    have z3 : hs (fun w' => B (21 + w) (21 + w')) 12 = 0 := hs_zero (fun w' h' => nn _ _ (by omega) (by omega) (by rw [a3 w _ hw (by omega), a3 w' _ h' (by omega), if_neg (by omega), if_neg (by omega)]; rfl))
    have y0 : A (21 + w) 0 = 0 := by rw [a3 w _ hw (by omega), if_neg (by omega)]
    have y1 : hs (fun s' => A (21 + w) (1 + s')) 12 = 0 := hs_zero (fun s' h' => by rw [a3 w _ hw (by omega), if_neg (by omega)])
    have y2 : hs (fun f' => A (21 + w) (13 + f')) 8 = 0 := hs_zero (fun s' h' => by rw [a3 w _ hw (by omega), if_neg (by omega)])
    have y3 : hs (fun w' => A (21 + w) (21 + w')) 12 = 0 := hs_zero (fun s' h' => by rw [a3 w _ hw (by omega), if_neg (by omega)])
    have y4 : A (21 + w) 33 = c3 w := by rw [a3 w _ hw (by omega), if_pos rfl]
    have z4 : hs (fun f => B (21 + w) (13 + f)) 8 = hwk wk (fun s f => B (13 + f) (1 + s)) n F w := by
      unfold hwk
      rw [hs_trunc hF (fun f h1 h2 => (q2z f w h2 hw (by omega)).2)]
      refine hs_congr (fun f hf => ?_)
      by_cases c : wk f = w
      · rw [if_pos c, ← q2' f hf, c]
      · rw [if_neg c]
        exact (q2z f w (by omega) hw (fun q => c q.2.symm)).2
    rw [z0, z1, z3, y0, y1, y2, y3, y4, z4] at h
    omega
  have q3' : ∀ w, w < 12 → B 33 (21 + w) = hwk wk (fun s f => B (13 + f) (1 + s)) n F w := by
    intro w hw
    have h := hpair (21 + w) 33 (by omega) (by omega)
    rw [q3 w hw, a3 w _ hw (by omega), if_pos rfl, a4 _ (by omega)] at h
    omega
  refine ⟨p1, fun s hs1 => ⟨q1 s (by omega), q1' s (by omega)⟩, fun f hf => ⟨q2' f hf, q2 f hf⟩, fun w hw => ⟨q3' w hw, q3 w hw⟩, ?_⟩
  have h := hcons 0 (by omega)
  rw [if_neg (by omega), if_pos rfl] at h
  unfold ho5 at h
  have z0 : B 0 0 = 0 := nn _ _ (by omega) (by omega) (by rw [a00 _ (by omega), if_neg (by omega)]; rfl)
  have z2 : hs (fun f => B 0 (13 + f)) 8 = 0 := hs_zero (fun f h' => nn _ _ (by omega) (by omega) (by rw [a00 _ (by omega), a2 f _ h' (by omega), if_neg (by omega), if_neg (by omega)]; rfl))
  have z3 : hs (fun w => B 0 (21 + w)) 12 = 0 := hs_zero (fun w h' => nn _ _ (by omega) (by omega) (by rw [a00 _ (by omega), a3 w _ h' (by omega), if_neg (by omega), if_neg (by omega)]; rfl))
  have z4 : B 0 33 = 0 := nn _ _ (by omega) (by omega) (by rw [a00 _ (by omega), a4 _ (by omega), if_neg (by omega)]; rfl)
  have y0 : A 0 0 = 0 := by rw [a00 _ (by omega), if_neg (by omega)]
  have y2 : hs (fun f => A 0 (13 + f)) 8 = 0 := hs_zero (fun f h' => by rw [a00 _ (by omega), if_neg (by omega)])
  have y3 : hs (fun f => A 0 (21 + f)) 12 = 0 := hs_zero (fun f h' => by rw [a00 _ (by omega), if_neg (by omega)])
  have y4 : A 0 33 = 0 := by rw [a00 _ (by omega), if_neg (by omega)]
  have y1 : hs (fun s => A 0 (1 + s)) 12 = hs c0 12 := hs_congr (fun s h' => by rw [a00 _ (by omega), if_pos (by omega), show 1 + s - 1 = s by omega])
  have z1 : hs (fun s => B 0 (1 + s)) 12 = hs c0 12 - hs (fun s => hrow (fun s f => B (13 + f) (1 + s)) F s) 12 := by
    rw [← hs_sub]
    exact hs_congr (fun s h' => q1' s h')
  have z5 : hs (fun s => hrow (fun s f => B (13 + f) (1 + s)) F s) 12 = h2 (fun s f => B (13 + f) (1 + s)) n F := by
    rw [h2_rows]
    exact hs_trunc hn (fun s h1 h2 => hs_zero (fun f hf => xz s f h2 (by omega) (by omega)))
  rw [z0, z1, z2, z3, z4, z5, y0, y1, y2, y3, y4] at h
  omega
end HNET
