/-! ===== turnRing(): a ring of free cells ===== -/
section HTURN
variable (n : Nat) (bef : Nat → Int32) (X : Nat → Nat → Int) (T : Nat → Nat → Prop) (dep : Nat → Nat) (src fill : Nat)
def hr_ch (a : Int) : Nat → Nat → Prop
  | 0, c => c = fill
  | k + 1, c => c ≠ fill ∧ c < 9 ∧ ∃ s c', src < s ∧ s < n ∧ bef (12 + c) = nI s ∧ bef s = nI (12 + c') ∧ c' < 9 ∧ T s c ∧ a ≤ X s c' ∧ dep s < dep (12 + c) ∧ dep (12 + c') < dep s ∧ hr_ch a k c'
end HTURN
section HTURN2
variable {n : Nat} {bef : Nat → Int32} {X : Nat → Nat → Int} {T : Nat → Nat → Prop} {dep : Nat → Nat} {src fill : Nat}
theorem hr_ch_9 {a : Int} (hfill : fill < 8) : ∀ {k c : Nat}, hr_ch n bef X T dep src fill a k c → c < 9
  | 0, _, h => by have : _ = fill := h; omega
  | _ + 1, _, h => h.2.1
theorem hr_chain {q : Nat} {queue : Nat → Nat} (hn12 : n ≤ 12) (hfill : fill < 8) (hB : hr_B n X T src (12 + fill) q queue bef dep) : ∀ (N c : Nat), dep (12 + c) < N → c < 9 → ¬ bef (12 + c) = -1 → ∃ k, 2 * k ≤ dep (12 + c) ∧ hr_ch n bef X T dep src fill 1 k c := by
  intro N
  induction N with
  | zero => exact fun c h => absurd h (Nat.not_lt_zero _)
  | succ N ih =>
    intro c hN hc hs1
    by_cases e : c = fill
    · exact ⟨0, by omega, e⟩
    · rcases hB.2.2.1 (12 + c) (by omega) hs1 with k | ⟨s, k1, k2, k3, k4, k5⟩
      · omega
      · rcases k4 with ⟨z1, z2, z3, z4⟩ | ⟨z1, z2, z3, z4, z5⟩
        · rw [show 12 + c - 12 = c by omega] at z4
          rcases hB.2.2.1 s k1 k2 with y | ⟨a, y1, y2, y3, y4, y5⟩
          · omega
          · rcases y4 with ⟨w1, w2, w3, w4⟩ | ⟨w1, w2, w3, w4, w5⟩
            · omega
            · have ea : 12 + (a - 12) = a := by omega
              obtain ⟨k, i1, i2⟩ := ih (a - 12) (by rw [ea]; omega) (by omega) (by rw [ea]; exact y2)
              rw [ea] at i1
              exact ⟨k + 1, by omega, e, hc, s, a - 12, w3, w4, k3, by rw [ea]; exact y3, by omega, z4, by omega, k5, by rw [ea]; exact y5, i2⟩
        · omega
theorem hr_sub12 {c : Nat} (h : c < 9) : (nI (12 + c) - nI 12).toNatClampNeg = c := by
  have : ∀ c, c < 9 → (nI (12 + c) - nI 12).toNatClampNeg = c := by decide +kernel
  exact this c h
theorem hr_19 (hn12 : n ≤ 12) (hfill : fill < 8) {L : Nat → Int64} (hL : hk_is L X) {Post : (Nat → Int64) → Prop} {cont : Int64 → Nat → Nat → (Nat → Int64)} :
    ∀ (k fu c x7 : Nat) (m : Int64), k < fu → x7 + k < 12 → hr_ch n bef X T dep src fill 1 k c → 0 < m.toInt → (∀ m' c' x7', 0 < m'.toInt → m'.toInt ≤ m.toInt → hr_ch n bef X T dep src fill m'.toInt k c → Post (cont m' c' x7')) → Post (f_Plan_turnRing_h19 fill L bef cont fu m c x7) := by
  intro k
  induction k with
  | zero =>
    intro fu c x7 m hfu hx7 hch hm hk
    obtain ⟨fu, rfl⟩ : ∃ q, fu = q + 1 := ⟨fu - 1, by omega⟩
    rw [f_Plan_turnRing_h19]
    unfold f_Plan_turnRing_h19B
    rw [if_neg (by omega), if_pos (show c = fill from hch)]
    exact hk m c x7 hm (Int.le_refl _) hch
  | succ k ih =>
    intro fu c x7 m hfu hx7 hch hm hk
    obtain ⟨fu, rfl⟩ : ∃ q, fu = q + 1 := ⟨fu - 1, by omega⟩
    obtain ⟨hne, hc9, s, c', h1, h2, h3, h4, h5, h6, h7, h8, h9, hc⟩ := hch
    rw [f_Plan_turnRing_h19]
    unfold f_Plan_turnRing_h19B
    have e1 : (bef (12 + c)).toNatClampNeg = s := by rw [h3, nI_clamp (by omega)]
    rw [if_neg (by omega), if_neg hne, e1, h4, hr_sub12 h5]
    have eX : (L (s * 9 + c')).toInt = X s c' := hL s c' (by omega) (by omega)
    have em : 0 < (hh_min m (L (s * 9 + c'))).toInt ∧ (hh_min m (L (s * 9 + c'))).toInt ≤ m.toInt ∧ (hh_min m (L (s * 9 + c'))).toInt ≤ X s c' := by
      unfold hh_min
      by_cases c : L (s * 9 + c') < m
      · rw [if_pos c]
        rw [h64_lt] at c
        omega
      · rw [if_neg c]
        rw [h64_lt] at c
        omega
    refine ih fu c' (x7 + 1) _ (by omega) (by omega) hc em.1 (fun m' s' x8' a1 a2 a3 => hk m' s' x8' a1 (by omega) ?_)
    exact ⟨hne, hc9, s, c', h1, h2, h3, h4, h5, h6, by omega, h8, h9, a3⟩
/-- half way: column c owes m -/
def hr_I (n : Nat) (X : Nat → Nat → Int) (T : Nat → Nat → Prop) (dep : Nat → Nat) (src fill : Nat) (m : Int) (c : Nat) (Y : Nat → Nat → Int) : Prop :=
  (∀ s' c', s' < n → s' ≠ src → dep s' < dep (12 + c) → Y s' c' = X s' c') ∧ (∀ s' c', s' < n → c' < 9 → 0 ≤ Y s' c') ∧ (∀ s', s' < n → hrow Y 9 s' = hrow X 9 s' - (if s' = src then m else 0)) ∧
  (∀ c', c' < 9 → hcol Y n c' = hcol X n c' - (if c' = c then m else 0)) ∧ (∀ s' c', s' < n → c' < 9 → 0 < Y s' c' → T s' c') ∧ (∀ s' c', s' < src → Y s' c' = X s' c') ∧ (∀ c', c' ≤ fill → Y src c' = X src c')
def hr_O (n : Nat) (X : Nat → Nat → Int) (T : Nat → Nat → Prop) (src fill : Nat) (m : Int) (Y : Nat → Nat → Int) : Prop :=
  (∀ s' c', s' < n → c' < 9 → 0 ≤ Y s' c') ∧ (∀ s', s' < n → hrow Y 9 s' = hrow X 9 s') ∧ (∀ c', c' < 9 → hcol Y n c' = hcol X n c') ∧ (∀ s' c', s' < n → c' < 9 → 0 < Y s' c' → T s' c') ∧ (∀ s' c', s' < src → Y s' c' = X s' c') ∧ (∀ c', c' < fill → Y src c' = X src c') ∧ Y src fill = X src fill + m
theorem hr_cell_le {Y : Nat → Nat → Int} (hY : ∀ s' c, s' < n → c < 9 → 0 ≤ Y s' c) {s c : Nat} (hs1 : s < n) (hc : c < 9) : Y s c ≤ hrow Y 9 s := hs_elem (f := fun f => Y s f) (fun f hf => hY s f hs1 hf) hc
theorem hr_104 (hn12 : n ≤ 12) (hsrc : src < n) (hfill : fill < 8) {m : Int64} (hm0 : 0 < m.toInt) (hm1 : m.toInt ≤ 2000000000000) (hcap : ∀ s, s < n → hrow X 9 s ≤ 2000000000000) (hTf : T src fill) {Post : (Nat → Int64) → Prop} (hk : ∀ L' Y, hk_is L' Y → hr_O n X T src fill m.toInt Y → Post L') :
    ∀ (k fu c x7 : Nat) (L : Nat → Int64) (Y : Nat → Nat → Int), k < fu → x7 + k < 12 → hr_ch n bef X T dep src fill m.toInt k c → hk_is L Y → hr_I n X T dep src fill m.toInt c Y → Post (f_Plan_turnRing_h104 fill bef m (f_Plan_turnRing_x104 src fill m) fu c x7 L) := by
  intro k
  induction k with
  | zero =>
    intro fu c x7 L Y hfu hx7 hch hL hI
    obtain ⟨fu, rfl⟩ : ∃ q, fu = q + 1 := ⟨fu - 1, by omega⟩
    have ec : c = fill := hch
    subst ec
    obtain ⟨i1, i2, i3, i4, i5, i6, i7⟩ := hI
    rw [f_Plan_turnRing_h104]
    unfold f_Plan_turnRing_h104B
    rw [if_neg (by omega), if_pos rfl]
    unfold f_Plan_turnRing_x104
    have eY : (L (src * 9 + c)).toInt = Y src c := hL src c (by omega) (by omega)
    have b0 := i2 src c hsrc (by omega)
    have b1 := hr_cell_le i2 hsrc (show c < 9 by omega)
    have b2 := i3 src hsrc
    have b3 := hcap src hsrc
    rw [if_pos rfl] at b2
    have ev : (L (src * 9 + c) + m).toInt = Y src c + m.toInt := by rw [h64_add (by omega) (by omega), eY]
    refine hk _ (hk_add Y src c m.toInt) (hk_is_upd hL (by omega) (by omega) ev) ⟨?_, ?_, ?_, ?_, ?_, ?_, ?_⟩
    · intro s' c' h1 h2
      have := i2 s' c' h1 h2
      unfold hk_add
      by_cases q : s' = src ∧ c' = c
      · rw [if_pos q]; omega
      · rw [if_neg q]; exact this
    · intro s' h1
      rw [hk_add_row, i3 s' h1]
      by_cases q : s' = src
      · rw [if_pos q, if_pos ⟨q, by omega⟩]; omega
      · rw [if_neg q, if_neg (fun z => q z.1)]; omega
    · intro c' h1
      rw [hk_add_col, i4 c' h1]
      by_cases q : c' = c
      · rw [if_pos q, if_pos ⟨q, hsrc⟩]; omega
      · rw [if_neg q, if_neg (fun z => q z.1)]; omega
    · intro s' c' h1 h2 h3
      unfold hk_add at h3
      by_cases q : s' = src ∧ c' = c
      · rw [q.1, q.2]; exact hTf
      · rw [if_neg q] at h3
        exact i5 s' c' h1 h2 h3
    · intro s' c' h1
      unfold hk_add
      rw [if_neg (by omega)]
      exact i6 s' c' h1
    · intro c' h1
      unfold hk_add
      rw [if_neg (by omega)]
      exact i7 c' (by omega)
    · unfold hk_add
      rw [if_pos ⟨rfl, rfl⟩, i7 c (Nat.le_refl _)]
  | succ k ih =>
    intro fu c x7 L Y hfu hx7 hch hL hI
    obtain ⟨fu, rfl⟩ : ∃ q, fu = q + 1 := ⟨fu - 1, by omega⟩
    obtain ⟨i1, i2, i3, i4, i5, i6, i7⟩ := hI
    obtain ⟨hne, hc9, s, c', h1, h2, h3, h4, h5, h6, h7, h8, h9, hc⟩ := hch
    have hcc : c' ≠ c := fun q => by subst q; omega
    rw [f_Plan_turnRing_h104]
    unfold f_Plan_turnRing_h104B
    have e1 : (bef (12 + c)).toNatClampNeg = s := by rw [h3, nI_clamp (by omega)]
    rw [if_neg (by omega), if_neg hne, e1, h4, hr_sub12 h5]
    have eY : (L (s * 9 + c)).toInt = Y s c := hL s c (by omega) (by omega)
    have b0 := i2 s c h2 (by omega)
    have b1 := hr_cell_le i2 h2 hc9
    have b2 := i3 s h2
    have b3 := hcap s h2
    rw [if_neg (by omega)] at b2
    have ev : (L (s * 9 + c) + m).toInt = Y s c + m.toInt := by rw [h64_add (by omega) (by omega), eY]
    have hL1 := hk_is_upd hL (a := s) (c := c) (by omega) (by omega) ev
    have eY0 : (vp_updL L (s * 9 + c) (L (s * 9 + c) + m) (s * 9 + c')).toInt = Y s c' := by
      have := hL1 s c' (by omega) (by omega)
      unfold hk_X hk_add at this
      rw [if_neg (fun q => hcc q.2)] at this
      exact this
    have y0 := i1 s c' h2 (by omega) (by omega)
    have b4 := hr_cell_le i2 h2 h5
    have ev2 : (vp_updL L (s * 9 + c) (L (s * 9 + c) + m) (s * 9 + c') - m).toInt = hk_add Y s c m.toInt s c' + - m.toInt := by
      rw [h64_sub (by omega) (by omega), eY0]
      unfold hk_add
      rw [if_neg (fun q => hcc q.2)]
      omega
    have hL2 := hk_is_upd hL1 (a := s) (c := c') (by omega) (by omega) ev2
    have cell : ∀ s' d, hk_add (hk_add Y s c m.toInt) s c' (- m.toInt) s' d = if s' = s ∧ d = c' then Y s c' - m.toInt else if s' = s ∧ d = c then Y s c + m.toInt else Y s' d := by
      intro s' d
      unfold hk_add
      by_cases q : s' = s ∧ d = c'
      · obtain ⟨rfl, rfl⟩ := q
        rw [if_pos ⟨rfl, rfl⟩, if_neg (fun z => hcc z.2), if_pos ⟨rfl, rfl⟩]
        omega
      · rw [if_neg q, if_neg q]
        by_cases q2 : s' = s ∧ d = c
        · rw [if_pos q2, if_pos q2, q2.1, q2.2]
        · rw [if_neg q2, if_neg q2]
    refine ih fu c' (x7 + 1) _ _ (by omega) (by omega) hc hL2 ⟨?_, ?_, ?_, ?_, ?_, ?_, ?_⟩
    · intro s' d a1 a2 a3
      have : s' ≠ s := fun q => by subst q; omega
      rw [cell, if_neg (fun q => this q.1), if_neg (fun q => this q.1)]
      exact i1 s' d a1 a2 (by omega)
    · intro s' d a1 a2
      have := i2 s' d a1 a2
      rw [cell]
      by_cases q : s' = s ∧ d = c'
      · rw [if_pos q]; omega
      · rw [if_neg q]
        by_cases q2 : s' = s ∧ d = c
        · rw [if_pos q2]; omega
        · rw [if_neg q2]; exact this
    · intro s' a1
      have k3 := i3 s' a1
      rw [hk_add_row, hk_add_row]
      by_cases q : s' = s
      · rw [if_pos ⟨q, hc9⟩, if_pos ⟨q, h5⟩]; omega
      · rw [if_neg (show ¬ (s' = s ∧ c < 9) from fun z => q z.1), if_neg (show ¬ (s' = s ∧ c' < 9) from fun z => q z.1)]; omega
    · intro d a1
      rw [hk_add_col, hk_add_col, i4 d a1]
      by_cases q : d = c
      · subst q
        rw [if_pos rfl, if_pos ⟨rfl, h2⟩, if_neg (fun z => hcc z.1.symm), if_neg (fun z => hcc z.symm)]
        omega
      · rw [if_neg q, if_neg (fun z => q z.1)]
        by_cases q2 : d = c'
        · rw [if_pos ⟨q2, h2⟩, if_pos q2]; omega
        · rw [if_neg (fun z => q2 z.1), if_neg q2]; omega
    · intro s' d a1 a2 a3
      rw [cell] at a3
      by_cases q : s' = s ∧ d = c'
      · rw [if_pos q] at a3
        rw [q.1, q.2]
        exact i5 s c' h2 h5 (by omega)
      · rw [if_neg q] at a3
        by_cases q2 : s' = s ∧ d = c
        · rw [q2.1, q2.2]; exact h6
        · rw [if_neg q2] at a3
          exact i5 s' d a1 a2 a3
    · intro s' d a1
      rw [cell, if_neg (by omega), if_neg (by omega)]
      exact i6 s' d a1
    · intro d a1
      rw [cell, if_neg (by omega), if_neg (by omega)]
      exact i7 d a1
/-- what turnRing does -/
theorem hr_turn (hn12 : n ≤ 12) (hsrc : src < n) (hfill : fill < 8) {L : Nat → Int64} (hL : hk_is L X) (hX : ∀ s c, s < n → c < 9 → 0 ≤ X s c) (hXT : ∀ s c, s < n → c < 9 → 0 < X s c → T s c) (hcap : ∀ s, s < n → hrow X 9 s ≤ 2000000000000) (hTf : T src fill) {k last : Nat} (hch : hr_ch n bef X T dep src fill 1 k last) (hk11 : k < 12) (hlast : last < 9) (hlf : fill < last) (hpos : 0 < X src last) :
    ∃ m Y, 0 < m ∧ hk_is (f_Plan_turnRing L bef src fill last) Y ∧ hr_O n X T src fill m Y := by
  have eX : (L (src * 9 + last)).toInt = X src last := hL src last (by omega) hlast
  have c8 := hr_cell_le hX hsrc hlast
  have cc := hcap src hsrc
  unfold f_Plan_turnRing
  refine hr_19 (Post := fun r => ∃ m Y, 0 < m ∧ hk_is r Y ∧ hr_O n X T src fill m Y) hn12 hfill hL k 13 last 0 _ (by omega) (by omega) hch (by omega) (fun m' c' x7' h1 h2 h3 => ?_)
  unfold f_Plan_turnRing_x19
  have ev : (L (src * 9 + last) - m').toInt = X src last + - m'.toInt := by rw [h64_sub (by omega) (by omega), eX]; omega
  refine hr_104 (Post := fun r => ∃ m Y, 0 < m ∧ hk_is r Y ∧ hr_O n X T src fill m Y) hn12 hsrc hfill h1 (by omega) hcap hTf (fun L' Y hL' hO => ⟨m'.toInt, Y, h1, hL', hO⟩) k 13 last 0 _ (hk_add X src last (- m'.toInt)) (by omega) (by omega) h3 (hk_is_upd hL (by omega) hlast ev) ⟨?_, ?_, ?_, ?_, ?_, ?_, ?_⟩
  · intro s' c a1 a2 a3
    unfold hk_add
    rw [if_neg (fun q => a2 q.1)]
  · intro s' c a1 a2
    have := hX s' c a1 a2
    unfold hk_add
    by_cases q : s' = src ∧ c = last
    · rw [if_pos q, q.1, q.2]; omega
    · rw [if_neg q]; exact this
  · intro s' a1
    rw [hk_add_row]
    by_cases q : s' = src
    · rw [if_pos ⟨q, hlast⟩, if_pos q]; omega
    · rw [if_neg (fun z => q z.1), if_neg q]; omega
  · intro d a1
    rw [hk_add_col]
    by_cases q : d = last
    · rw [if_pos ⟨q, hsrc⟩, if_pos q]; omega
    · rw [if_neg (fun z => q z.1), if_neg q]; omega
  · intro s' d a1 a2 a3
    unfold hk_add at a3
    by_cases q : s' = src ∧ d = last
    · rw [q.1, q.2]; exact hXT src last hsrc hlast hpos
    · rw [if_neg q] at a3
      exact hXT s' d a1 a2 a3
  · intro s' d a1
    unfold hk_add
    rw [if_neg (by omega)]
  · intro d a1
    unfold hk_add
    rw [if_neg (by omega)]
end HTURN2
