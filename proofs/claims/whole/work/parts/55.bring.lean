/-! ===== one cell more or less ===== -/
def hk_add (X : Nat → Nat → Int) (a c : Nat) (d : Int) : Nat → Nat → Int := fun s f => if s = a ∧ f = c then X s f + d else X s f
theorem hk_add_row (X : Nat → Nat → Int) (a c : Nat) (d : Int) (F s : Nat) : hrow (hk_add X a c d) F s = hrow X F s + (if s = a ∧ c < F then d else 0) := by
  unfold hrow hk_add
  by_cases e : s = a ∧ c < F
  · rw [if_pos e, ← hs_upd1 (fun f => X s f) c d e.2]
    refine hs_congr (fun f _ => ?_)
    by_cases c1 : f = c
    · rw [if_pos ⟨e.1, c1⟩, if_pos c1]
    · rw [if_neg (fun q => c1 q.2), if_neg c1]
  · rw [if_neg e, Int.add_zero]
    refine hs_congr (fun f hf => ?_)
    rw [if_neg (fun q => e ⟨q.1, by omega⟩)]
theorem hk_add_col (X : Nat → Nat → Int) (a c : Nat) (d : Int) (n f : Nat) : hcol (hk_add X a c d) n f = hcol X n f + (if f = c ∧ a < n then d else 0) := by
  unfold hcol hk_add
  by_cases e : f = c ∧ a < n
  · rw [if_pos e, ← hs_upd1 (fun s => X s f) a d e.2]
    refine hs_congr (fun s _ => ?_)
    by_cases c1 : s = a
    · rw [if_pos ⟨c1, e.1⟩, if_pos c1]
    · rw [if_neg (fun q => c1 q.1), if_neg c1]
  · rw [if_neg e, Int.add_zero]
    refine hs_congr (fun s hs1 => ?_)
    rw [if_neg (fun q => e ⟨q.2, by omega⟩)]
theorem hrow_congr {X Y : Nat → Nat → Int} {F s : Nat} (h : ∀ f, f < F → X s f = Y s f) : hrow X F s = hrow Y F s := hs_congr h
theorem hcol_congr {X Y : Nat → Nat → Int} {n f : Nat} (h : ∀ s, s < n → X s f = Y s f) : hcol X n f = hcol Y n f := hs_congr h
def hk_tot (X : Nat → Nat → Int) (F s : Nat) : Int := X s 8 + hrow X F s
/-- the array and the plan that it holds -/
def hk_is (L : Nat → Int64) (X : Nat → Nat → Int) : Prop := ∀ s f, s < 12 → f < 9 → hk_X L s f = X s f
theorem hk_is_upd {L : Nat → Int64} {X : Nat → Nat → Int} (h : hk_is L X) {a c : Nat} (ha : a < 12) (hc : c < 9) {v : Int64} {d : Int} (hv : v.toInt = X a c + d) : hk_is (vp_updL L (a * 9 + c) v) (hk_add X a c d) := by
  intro s f hs1 hf
  unfold hk_X hk_add
  by_cases e : s = a ∧ f = c
  · obtain ⟨rfl, rfl⟩ := e
    rw [hp_updL, if_pos ⟨rfl, rfl⟩, hv]
  · rw [hp_updLn _ _ (by omega), if_neg e]
    exact h s f hs1 hf
/-! ===== bring(): along the path that the search found ===== -/
section HBRING
variable (n F : Nat) (bef : Nat → Int32) (X : Nat → Nat → Int) (T : Nat → Nat → Prop) (dep : Nat → Nat) (x1 : Nat)
def hb_ch (a : Int) : Nat → Nat → Prop
  | 0, s => s < n ∧ 0 < dep s ∧ bef s = nI (12 + x1) ∧ T s x1
  | k + 1, s => s < n ∧ 0 < dep s ∧ ∃ f0 s0, f0 < F ∧ f0 ≠ x1 ∧ bef s = nI (12 + f0) ∧ T s f0 ∧ bef (12 + f0) = nI s0 ∧ a ≤ X s0 f0 ∧ dep s0 < dep s ∧ hb_ch a k s0
end HBRING
section HBRING2
variable {n F : Nat} {bef : Nat → Int32} {X : Nat → Nat → Int} {T : Nat → Nat → Prop} {dep : Nat → Nat} {x1 : Nat}
theorem hb_ch_n {a : Int} : ∀ {k s : Nat}, hb_ch n F bef X T dep x1 a k s → s < n
  | 0, _, h => h.1
  | _ + 1, _, h => h.1
theorem hb_24 (hn12 : n ≤ 12) (hF : F ≤ 8) (hx1 : x1 < F) {L : Nat → Int64} (hL : hk_is L X) {Post : Int64 × (Nat → Int64) → Prop} {cont : Int64 → Nat → Nat → Int64 × (Nat → Int64)} :
    ∀ (k fu s x8 : Nat) (m : Int64), k < fu → x8 + k < 12 → hb_ch n F bef X T dep x1 1 k s → 0 < m.toInt → (∀ m' s' x8', 0 < m'.toInt → m'.toInt ≤ m.toInt → hb_ch n F bef X T dep x1 m'.toInt k s → Post (cont m' s' x8')) → Post (f_Plan_bring_h24 bef x1 L cont fu m s x8) := by
  intro k
  induction k with
  | zero =>
    intro fu s x8 m hfu hx8 hch hm hk
    obtain ⟨fu, rfl⟩ : ∃ q, fu = q + 1 := ⟨fu - 1, by omega⟩
    rw [f_Plan_bring_h24]
    unfold f_Plan_bring_h24B
    rw [if_neg (by omega), if_pos hch.2.2.1]
    exact hk m s x8 hm (Int.le_refl _) hch
  | succ k ih =>
    intro fu s x8 m hfu hx8 hch hm hk
    obtain ⟨fu, rfl⟩ : ∃ q, fu = q + 1 := ⟨fu - 1, by omega⟩
    obtain ⟨hsn, hdp, f0, s0, hf0, hne, hb1, hT, hb2, hX, hdep, hc⟩ := hch
    have hs0 := hb_ch_n hc
    rw [f_Plan_bring_h24]
    unfold f_Plan_bring_h24B
    have e1 : (bef s).toNatClampNeg = 12 + f0 := by rw [hb1, nI_clamp (by omega)]
    have e2 : (bef (12 + f0)).toNatClampNeg = s0 := by rw [hb2, nI_clamp (by omega)]
    rw [if_neg (by omega), if_neg (by rw [hb1]; intro q; have := congrArg Int32.toNatClampNeg q; rw [nI_clamp (by omega), nI_clamp (by omega)] at this; omega), e1, e2]
    have e3 : s0 * 9 + (12 + f0) - 12 = s0 * 9 + f0 := by omega
    rw [e3]
    have eX : (L (s0 * 9 + f0)).toInt = X s0 f0 := hL s0 f0 (by omega) (by omega)
    have em : 0 < (hh_min m (L (s0 * 9 + f0))).toInt ∧ (hh_min m (L (s0 * 9 + f0))).toInt ≤ m.toInt ∧ (hh_min m (L (s0 * 9 + f0))).toInt ≤ X s0 f0 := by
      unfold hh_min
      by_cases c : L (s0 * 9 + f0) < m
      · rw [if_pos c]
        rw [h64_lt] at c
        omega
      · rw [if_neg c]
        rw [h64_lt] at c
        omega
    refine ih fu s0 (x8 + 1) _ (by omega) (by omega) hc em.1 (fun m' s' x8' h1 h2 h3 => hk m' s' x8' h1 (by omega) ?_)
    exact ⟨hsn, hdp, f0, s0, hf0, hne, hb1, hT, hb2, by omega, hdep, h3⟩
/-- half way: the row of s owes m -/
def hb_I (n F : Nat) (X : Nat → Nat → Int) (T : Nat → Nat → Prop) (dep : Nat → Nat) (m : Int) (e s : Nat) (Y : Nat → Nat → Int) : Prop :=
  (∀ s' c, s' < n → dep s' < dep s → Y s' c = X s' c) ∧ (∀ s' c, s' < n → c < 9 → 0 ≤ Y s' c) ∧ (∀ s', s' < n → hk_tot Y F s' = hk_tot X F s' - (if s' = s then m else 0)) ∧
  (∀ f, f < F → hcol Y n f = hcol X n f) ∧ (∀ s' f, s' < n → f < F → 0 < Y s' f → T s' f) ∧ (∀ s', s' < n → Y s' 8 = X s' 8 - (if s' = e then m else 0)) ∧ ∀ s' c, F ≤ c → c ≠ 8 → Y s' c = X s' c
def hb_O (n F : Nat) (X : Nat → Nat → Int) (T : Nat → Nat → Prop) (dep : Nat → Nat) (x1 : Nat) (m : Int) (e : Nat) (Y : Nat → Nat → Int) : Prop :=
  (∀ s' c, s' < n → dep s' = 0 → Y s' c = X s' c) ∧ (∀ s' c, s' < n → c < 9 → 0 ≤ Y s' c) ∧ (∀ s', s' < n → hk_tot Y F s' = hk_tot X F s') ∧
  (∀ f, f < F → hcol Y n f = hcol X n f + (if f = x1 then m else 0)) ∧ (∀ s' f, s' < n → f < F → 0 < Y s' f → T s' f) ∧ (∀ s', s' < n → Y s' 8 = X s' 8 - (if s' = e then m else 0)) ∧ ∀ s' c, F ≤ c → c ≠ 8 → Y s' c = X s' c
theorem hk_cell_le {Y : Nat → Nat → Int} (hY : ∀ s' c, s' < n → c < 9 → 0 ≤ Y s' c) (hF : F ≤ 8) {s c : Nat} (hs1 : s < n) (hc : c < F ∨ c = 8) : Y s c ≤ hk_tot Y F s := by
  unfold hk_tot
  have h8 := hY s 8 hs1 (by omega)
  have hr : 0 ≤ hrow Y F s := hs_nn (fun f hf => hY s f hs1 (by omega))
  rcases hc with q | q
  · have h1 : Y s c ≤ hrow Y F s := hs_elem (f := fun f => Y s f) (fun f hf => hY s f hs1 (by omega)) q
    omega
  · subst q
    omega
theorem hb_115 (hn12 : n ≤ 12) (hF : F ≤ 8) (hx1 : x1 < F) {e : Nat} {m : Int64} (hm0 : 0 < m.toInt) (hm1 : m.toInt ≤ 2000000000000) (hcap : ∀ s, s < n → hk_tot X F s ≤ 2000000000000) {Post : Int64 × (Nat → Int64) → Prop} (hk : ∀ L' Y, hk_is L' Y → hb_O n F X T dep x1 m.toInt e Y → Post (m, L')) :
    ∀ (k fu s x8 : Nat) (L : Nat → Int64) (Y : Nat → Nat → Int), k < fu → x8 + k < 12 → hb_ch n F bef X T dep x1 m.toInt k s → hk_is L Y → hb_I n F X T dep m.toInt e s Y → Post (f_Plan_bring_h115 bef x1 m (f_Plan_bring_x115 m x1) fu s x8 L) := by
  intro k
  induction k with
  | zero =>
    intro fu s x8 L Y hfu hx8 hch hL hI
    obtain ⟨fu, rfl⟩ : ∃ q, fu = q + 1 := ⟨fu - 1, by omega⟩
    obtain ⟨i1, i2, i3, i4, i5, i6, i7⟩ := hI
    obtain ⟨hsn, hdp, hb1, hT⟩ := hch
    rw [f_Plan_bring_h115]
    unfold f_Plan_bring_h115B
    rw [if_neg (by omega), if_pos hb1]
    unfold f_Plan_bring_x115
    have eY : (L (s * 9 + x1)).toInt = Y s x1 := hL s x1 (by omega) (by omega)
    have b0 := i2 s x1 hsn (by omega)
    have b1 := hk_cell_le i2 hF hsn (Or.inl hx1)
    have b2 := i3 s hsn
    have b3 := hcap s hsn
    rw [if_pos rfl] at b2
    have ev : (L (s * 9 + x1) + m).toInt = Y s x1 + m.toInt := by rw [h64_add (by omega) (by omega), eY]
    refine hk _ (hk_add Y s x1 m.toInt) (hk_is_upd hL (by omega) (by omega) ev) ⟨?_, ?_, ?_, ?_, ?_, ?_, ?_⟩
    · intro s' c h1 h2
      unfold hk_add
      rw [if_neg (fun q => by have := q.1; subst this; omega)]
      exact i1 s' c h1 (by omega)
    · intro s' c h1 h2
      have := i2 s' c h1 h2
      unfold hk_add
      by_cases q : s' = s ∧ c = x1
      · rw [if_pos q]; omega
      · rw [if_neg q]; exact this
    · intro s' h1
      have := i3 s' h1
      unfold hk_tot at this ⊢
      rw [hk_add_row]
      have e8 : hk_add Y s x1 m.toInt s' 8 = Y s' 8 := by unfold hk_add; rw [if_neg (by omega)]
      rw [e8]
      by_cases q : s' = s
      · rw [if_pos q] at this
        rw [if_pos ⟨q, hx1⟩]
        omega
      · rw [if_neg q] at this
        rw [if_neg (fun z => q z.1)]
        omega
    · intro f hf
      rw [hk_add_col, i4 f hf]
      by_cases q : f = x1
      · rw [if_pos ⟨q, hsn⟩, if_pos q]
      · rw [if_neg (fun z => q z.1), if_neg q]
    · intro s' f h1 h2 h3
      unfold hk_add at h3
      by_cases q : s' = s ∧ f = x1
      · rw [q.1, q.2]; exact hT
      · rw [if_neg q] at h3
        exact i5 s' f h1 h2 h3
    · intro s' h1
      unfold hk_add
      rw [if_neg (by omega)]
      exact i6 s' h1
    · intro s' c h1 h2
      unfold hk_add
      rw [if_neg (by omega)]
      exact i7 s' c h1 h2
  | succ k ih =>
    intro fu s x8 L Y hfu hx8 hch hL hI
    obtain ⟨fu, rfl⟩ : ∃ q, fu = q + 1 := ⟨fu - 1, by omega⟩
    obtain ⟨i1, i2, i3, i4, i5, i6, i7⟩ := hI
    obtain ⟨hsn, hdp, f0, s0, hf0, hne, hb1, hT, hb2, hX, hdep, hc⟩ := hch
    have hs0 := hb_ch_n hc
    have hss : s0 ≠ s := fun q => by subst q; omega
    rw [f_Plan_bring_h115]
    unfold f_Plan_bring_h115B
    have e1 : (bef s).toNatClampNeg = 12 + f0 := by rw [hb1, nI_clamp (by omega)]
    have e2 : (bef (12 + f0)).toNatClampNeg = s0 := by rw [hb2, nI_clamp (by omega)]
    have e3 : s0 * 9 + (12 + f0) - 12 = s0 * 9 + f0 := by omega
    have e4 : s * 9 + (12 + f0) - 12 = s * 9 + f0 := by omega
    rw [if_neg (by omega), if_neg (by rw [hb1]; intro q; have := congrArg Int32.toNatClampNeg q; rw [nI_clamp (by omega), nI_clamp (by omega)] at this; omega), e1, e2, e3, e4]
    have eY : (L (s * 9 + f0)).toInt = Y s f0 := hL s f0 (by omega) (by omega)
    have b0 := i2 s f0 hsn (by omega)
    have b1 := hk_cell_le i2 hF hsn (Or.inl hf0)
    have b2 := i3 s hsn
    have b3 := hcap s hsn
    rw [if_pos rfl] at b2
    have ev : (L (s * 9 + f0) + m).toInt = Y s f0 + m.toInt := by rw [h64_add (by omega) (by omega), eY]
    have hL1 := hk_is_upd hL (a := s) (c := f0) (by omega) (by omega) ev
    have eY0 : (vp_updL L (s * 9 + f0) (L (s * 9 + f0) + m) (s0 * 9 + f0)).toInt = Y s0 f0 := by
      have := hL1 s0 f0 (by omega) (by omega)
      unfold hk_X hk_add at this
      rw [if_neg (fun q => hss q.1)] at this
      exact this
    have y0 := i1 s0 f0 hs0 hdep
    have b4 := hk_cell_le i2 hF hs0 (Or.inl hf0)
    have b5 := i3 s0 hs0
    have b6 := hcap s0 hs0
    rw [if_neg hss] at b5
    have ev2 : (vp_updL L (s * 9 + f0) (L (s * 9 + f0) + m) (s0 * 9 + f0) - m).toInt = hk_add Y s f0 m.toInt s0 f0 + - m.toInt := by
      rw [h64_sub (by omega) (by omega), eY0]
      unfold hk_add
      rw [if_neg (fun q => hss q.1)]
      omega
    have hL2 := hk_is_upd hL1 (a := s0) (c := f0) (by omega) (by omega) ev2
    have cell : ∀ s' c, hk_add (hk_add Y s f0 m.toInt) s0 f0 (- m.toInt) s' c = if s' = s0 ∧ c = f0 then Y s0 f0 - m.toInt else if s' = s ∧ c = f0 then Y s f0 + m.toInt else Y s' c := by
      intro s' c
      unfold hk_add
      by_cases q : s' = s0 ∧ c = f0
      · obtain ⟨rfl, rfl⟩ := q
        rw [if_pos ⟨rfl, rfl⟩, if_neg (fun z => hss z.1), if_pos ⟨rfl, rfl⟩]
        omega
      · rw [if_neg q, if_neg q]
        by_cases q2 : s' = s ∧ c = f0
        · rw [if_pos q2, if_pos q2, q2.1, q2.2]
        · rw [if_neg q2, if_neg q2]
    refine ih fu s0 (x8 + 1) _ _ (by omega) (by omega) hc hL2 ⟨?_, ?_, ?_, ?_, ?_, ?_, ?_⟩
    · intro s' c h1 h2
      rw [cell, if_neg (fun q => by have := q.1; subst this; omega), if_neg (fun q => by have := q.1; subst this; omega)]
      exact i1 s' c h1 (by omega)
    · intro s' c h1 h2
      have := i2 s' c h1 h2
      rw [cell]
      by_cases q : s' = s0 ∧ c = f0
      · rw [if_pos q]; omega
      · rw [if_neg q]
        by_cases q2 : s' = s ∧ c = f0
        · rw [if_pos q2]; omega
        · rw [if_neg q2]; exact this
    · intro s' h1
      have := i3 s' h1
      unfold hk_tot at this ⊢
      rw [hk_add_row, hk_add_row, cell, if_neg (by omega), if_neg (by omega)]
      by_cases q : s' = s0
      · subst q
        rw [if_neg hss] at this
        rw [if_neg (fun z => hss z.1), if_pos ⟨rfl, hf0⟩, if_pos rfl]
        omega
      · by_cases q2 : s' = s
        · rw [if_pos q2] at this
          rw [if_pos ⟨q2, hf0⟩, if_neg (fun z => q z.1), if_neg q]
          omega
        · rw [if_neg q2] at this
          rw [if_neg (fun z => q2 z.1), if_neg (fun z => q z.1), if_neg q]
          omega
    · intro f hf
      rw [hk_add_col, hk_add_col, i4 f hf]
      by_cases q : f = f0
      · rw [if_pos ⟨q, hsn⟩, if_pos ⟨q, hs0⟩]; omega
      · rw [if_neg (fun z => q z.1), if_neg (fun z => q z.1)]; omega
    · intro s' f h1 h2 h3
      rw [cell] at h3
      by_cases q : s' = s0 ∧ f = f0
      · rw [if_pos q] at h3
        rw [q.1, q.2]
        exact i5 s0 f0 hs0 hf0 (by omega)
      · rw [if_neg q] at h3
        by_cases q2 : s' = s ∧ f = f0
        · rw [q2.1, q2.2]; exact hT
        · rw [if_neg q2] at h3
          exact i5 s' f h1 h2 h3
    · intro s' h1
      rw [cell, if_neg (by omega), if_neg (by omega)]
      exact i6 s' h1
    · intro s' c h1 h2
      rw [cell, if_neg (by omega), if_neg (by omega)]
      exact i7 s' c h1 h2
/-- what bring() does: m more to the fill, from the end's idle, all else kept -/
theorem hb_bring (hn12 : n ≤ 12) (hF : F ≤ 8) (hx1 : x1 < F) {e k : Nat} {L : Nat → Int64} (hL : hk_is L X) (hX : ∀ s c, s < n → c < 9 → 0 ≤ X s c) (hXT : ∀ s f, s < n → f < F → 0 < X s f → T s f) (hcap : ∀ s, s < n → hk_tot X F s ≤ 2000000000000) (hch : hb_ch n F bef X T dep x1 1 k e) (hk11 : k < 12) (hidle : 0 < X e 8) {need : Int64} (hneed : 0 < need.toInt) :
    ∃ Y, 0 < (f_Plan_bring L bef x1 e need).1.toInt ∧ (f_Plan_bring L bef x1 e need).1.toInt ≤ need.toInt ∧ hk_is (f_Plan_bring L bef x1 e need).2 Y ∧ hb_O n F X T dep x1 (f_Plan_bring L bef x1 e need).1.toInt e Y := by
  have hen := hb_ch_n hch
  have eX : (L (e * 9 + 8)).toInt = X e 8 := hL e 8 (by omega) (by omega)
  have em : 0 < (hh_min need (L (e * 9 + 8))).toInt ∧ (hh_min need (L (e * 9 + 8))).toInt ≤ need.toInt ∧ (hh_min need (L (e * 9 + 8))).toInt ≤ X e 8 := by
    unfold hh_min
    by_cases c : L (e * 9 + 8) < need
    · rw [if_pos c]
      rw [h64_lt] at c
      omega
    · rw [if_neg c]
      rw [h64_lt] at c
      omega
  have c8 := hk_cell_le hX hF hen (c := 8) (Or.inr rfl)
  have cc := hcap e hen
  unfold f_Plan_bring
  refine hb_24 (Post := fun r => ∃ Y, 0 < r.1.toInt ∧ r.1.toInt ≤ need.toInt ∧ hk_is r.2 Y ∧ hb_O n F X T dep x1 r.1.toInt e Y) hn12 hF hx1 hL k 13 e 0 _ (by omega) (by omega) hch em.1 (fun m' s' x8' h1 h2 h3 => ?_)
  unfold f_Plan_bring_x24
  have ev : (L (e * 9 + 8) - m').toInt = X e 8 + - m'.toInt := by rw [h64_sub (by omega) (by omega), eX]; omega
  refine hb_115 (Post := fun r => ∃ Y, 0 < r.1.toInt ∧ r.1.toInt ≤ need.toInt ∧ hk_is r.2 Y ∧ hb_O n F X T dep x1 r.1.toInt e Y) hn12 hF hx1 h1 (by omega) hcap (fun L' Y hL' hO => ⟨Y, h1, Int.le_trans h2 em.2.1, hL', hO⟩) k 13 e 0 _ (hk_add X e 8 (- m'.toInt)) (by omega) (by omega) h3 (hk_is_upd hL (by omega) (by omega) ev) ⟨?_, ?_, ?_, ?_, ?_, ?_, ?_⟩
  · intro s' c a1 a2
    unfold hk_add
    rw [if_neg (fun q => by have := q.1; subst this; omega)]
  · intro s' c a1 a2
    have := hX s' c a1 a2
    unfold hk_add
    by_cases q : s' = e ∧ c = 8
    · rw [if_pos q, q.1, q.2]; omega
    · rw [if_neg q]; exact this
  · intro s' a1
    unfold hk_tot
    rw [hk_add_row, if_neg (fun (q : s' = e ∧ 8 < F) => by omega)]
    unfold hk_add
    by_cases q : s' = e
    · rw [if_pos ⟨q, rfl⟩, if_pos q]; omega
    · rw [if_neg (fun z => q z.1), if_neg q]; omega
  · intro f hf
    rw [hk_add_col, if_neg (by omega), Int.add_zero]
  · intro s' f a1 a2 a3
    unfold hk_add at a3
    rw [if_neg (by omega)] at a3
    exact hXT s' f a1 a2 a3
  · intro s' a1
    unfold hk_add
    by_cases q : s' = e
    · rw [if_pos ⟨q, rfl⟩, if_pos q]; omega
    · rw [if_neg (fun z => q z.1), if_neg q]; omega
  · intro s' c a1 a2
    unfold hk_add
    rw [if_neg (fun q => a2 q.2)]
end HBRING2
