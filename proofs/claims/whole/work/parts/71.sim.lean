/-! ===== the same site on both sides ===== -/
/-- a bit of a word for each flag -/
def hb_bits (IS0 IM0 : Nat → Int32) : Prop := ∀ k f, k < 4 → f < 8 → (((IS0 k) >>> ((nI f) &&& 31)) &&& (nI 1) = 0 ↔ IM0 (8 * k + f) = 0)
def hb_bars (IY0 IM1 : Nat → Int32) : Prop := ∀ k f, k < 6 → f < 12 → (((IY0 k) >>> ((nI f) &&& 31)) &&& (nI 1) = nI 1 ↔ ¬ IM1 (12 * k + f) = 0)
theorem hy_gives {VM2 : Nat} {NM0 : Nat → Nat} {LM0 LM1 LM2 LM3 LM4 LM5 LM6 LM7 LM8 LM9 LM10 LM11 LS6 LS7 : Nat → Int64} (hv : hv_M VM2 LM0 LM1 LM2 LM3 LM4 LM5 LM6 LM7 LM8 LM9 LM10 LM11) (h6 : ∀ i, i < 4 → LS6 i = LM4 i ∧ LS7 i = LM5 i) (hk : ∀ i, NM0 i < 4) (x : Nat) : f_Site_gives NM0 LM0 LS6 LS7 x = f_Model_gives NM0 LM0 LM4 LM5 x := by
  unfold f_Site_gives f_Model_gives
  have a := h6 (NM0 x) (hk x)
  have b := hv.2.2.2.2.2.2.1 (NM0 x) (hk x)
  rw [a.1, a.2, if_pos]
  rw [h64_le]
  have : (1 : Int64).toInt = 1 := by decide
  omega
theorem hy_serves {VM1 : Nat} {NM0 NM1 NM2 : Nat → Nat} {IS0 IM0 : Nat → Int32} (hb : hb_bits IS0 IM0) (hk : ∀ i, NM0 i < 4) (s : Nat) {f : Nat} (hf : f < 8) : f_Site_serves VM1 NM0 NM1 NM2 IS0 s f = f_Model_serves VM1 NM0 NM1 NM2 IM0 s f := by
  unfold f_Site_serves f_Model_serves
  by_cases c : s < VM1
  · rw [if_pos c, if_neg (show ¬ VM1 ≤ s by omega)]
    have k := hb (NM0 s) f (hk s) hf
    by_cases e : IM0 (8 * NM0 s + f) = 0
    · rw [if_pos e, if_pos (k.mpr e)]
    · rw [if_neg e, if_neg (fun q => e (k.mp q))]
  · rw [if_neg c, if_pos (show VM1 ≤ s by omega)]
theorem hy_abs {a b : Int64} (ha : 0 ≤ a.toInt ∧ a.toInt ≤ 100000) (hb : 0 ≤ b.toInt ∧ b.toInt ≤ 100000) : hh_abs (a - b) = f_Model_apart a b := by
  have e1 : (a - b).toInt = a.toInt - b.toInt := h64_sub (by omega) (by omega)
  have e2 : (b - a).toInt = b.toInt - a.toInt := h64_sub (by omega) (by omega)
  unfold hh_abs f_Model_apart
  by_cases c : b ≤ a
  · rw [if_pos c]
    rw [h64_le] at c
    by_cases d : 0 < a - b
    · rw [if_pos d]
    · rw [if_neg d]
      rw [h64_lt, h64_0, e1] at d
      apply Int64.toInt_inj.mp
      rw [h64_neg (by omega)]
      omega
  · rw [if_neg c]
    rw [h64_le] at c
    rw [if_neg (by rw [h64_lt, h64_0, e1]; omega)]
    apply Int64.toInt_inj.mp
    rw [h64_neg (by omega)]
    omega
/-- the loops over the ways go side by side -/
theorem hy_ways {VM3 : Nat} {y2 : Int64} {LM6 LM7 LM3 : Nat → Int64} {x2 : Nat} {x3 x6 : Int32} {IM1 IY0 : Nat → Int32} {NM2 : Nat → Nat} {LM8 : Nat → Int64} (h2 : 0 ≤ y2.toInt ∧ y2.toInt ≤ 100000) (h6 : hv_r LM6 100000) (h7 : hv_r LM7 100000) (h3 : hv_r LM3 100000) (h8 : hv_r LM8 100000) (hy6 : VM3 ≤ 6) (hwk : NM2 x2 < 12) (hb : hb_bars IY0 IM1) (hx : ∀ w, w < 6 → (nI w = x6 ↔ nI w = x3)) {k : Int64 → Nat → Int64} (hkk : ∀ x w w', k x w = k x w') :
    ∀ (n : Nat) (x : Int64) (w : Nat), VM3 - w < n → 0 ≤ x.toInt → x.toInt ≤ 100000 → f_Model_unit_h27 VM3 y2 LM6 LM7 LM3 x2 x3 IM1 NM2 LM8 k n x w = k (f_Ways_unitPrice_h11 VM3 x6 IY0 (NM2 x2) LM8 y2 LM6 LM7 (LM3 x2) f_Ways_unitPrice_x11 n x w) 0 := by
  intro n
  induction n with
  | zero => exact fun x w h => absurd h (Nat.not_lt_zero _)
  | succ n ih =>
    intro x w hn hx0 hx1
    rw [f_Model_unit_h27, f_Ways_unitPrice_h11]
    unfold f_Model_unit_h27B f_Ways_unitPrice_h11B
    by_cases c : VM3 ≤ w
    · rw [if_pos c, if_pos c]
      exact hkk _ _ _
    · rw [if_neg c, if_neg c, hh_bind, hh_bind, hh_bind, hh_bind, hy_abs h2 (h6 w), hy_abs (h7 w) (h3 x2), hy_abs h2 (h7 w), hy_abs (h6 w) (h3 x2)]
      have a1 := hv_apart h2 (h6 w)
      have a2 := hv_apart (h7 w) (h3 x2)
      have a3 := hv_apart h2 (h7 w)
      have a4 := hv_apart (h6 w) (h3 x2)
      have a8 := h8 w
      generalize f_Model_apart y2 (LM6 w) = p1 at a1 ⊢
      generalize f_Model_apart (LM7 w) (LM3 x2) = p2 at a2 ⊢
      generalize f_Model_apart y2 (LM7 w) = p3 at a3 ⊢
      generalize f_Model_apart (LM6 w) (LM3 x2) = p4 at a4 ⊢
      have e1 : (p1 + LM8 w).toInt = p1.toInt + (LM8 w).toInt := h64_add (by omega) (by omega)
      have e2 : (p1 + LM8 w + p2).toInt = p1.toInt + (LM8 w).toInt + p2.toInt := by rw [h64_add (by omega) (by omega), e1]
      have e3 : (p3 + LM8 w).toInt = p3.toInt + (LM8 w).toInt := h64_add (by omega) (by omega)
      have e4 : (p3 + LM8 w + p4).toInt = p3.toInt + (LM8 w).toInt + p4.toInt := by rw [h64_add (by omega) (by omega), e3]
      by_cases c1 : nI w = x3
      · rw [if_pos c1, if_pos ((hx w (by omega)).mpr c1)]
        exact ih _ _ (by omega) hx0 hx1
      · rw [if_neg c1, if_neg (fun q => c1 ((hx w (by omega)).mp q))]
        have kb := hb w (NM2 x2) (by omega) hwk
        by_cases c2 : IM1 (12 * w + NM2 x2) = 0
        · rw [if_pos c2, if_neg (fun q => (kb.mp q) c2)]
          have f1 : (p1 + p2).toInt = p1.toInt + p2.toInt := h64_add (by omega) (by omega)
          have f2 : (p3 + p4).toInt = p3.toInt + p4.toInt := h64_add (by omega) (by omega)
          have f3 : (LM8 w + hh_min (p1 + p2) (p3 + p4)).toInt = (LM8 w).toInt + (if p3.toInt + p4.toInt < p1.toInt + p2.toInt then p3.toInt + p4.toInt else p1.toInt + p2.toInt) := by
            unfold hh_min
            by_cases q : p3 + p4 < p1 + p2
            · have q' := q
              rw [h64_lt, f1, f2] at q'
              rw [if_pos q, if_pos q', h64_add (by omega) (by omega), f2]
            · have q' := q
              rw [h64_lt, f1, f2] at q'
              rw [if_neg q, if_neg q', h64_add (by omega) (by omega), f1]
          -- the least of three
          have least : ∀ z : Int64, z.toInt ≤ x.toInt → z.toInt ≤ p1.toInt + (LM8 w).toInt + p2.toInt → z.toInt ≤ p3.toInt + (LM8 w).toInt + p4.toInt → (z.toInt = x.toInt ∨ z.toInt = p1.toInt + (LM8 w).toInt + p2.toInt ∨ z.toInt = p3.toInt + (LM8 w).toInt + p4.toInt) → z = hh_min x (LM8 w + hh_min (p1 + p2) (p3 + p4)) := by
            intro z h1 h2' h3' h4'
            apply Int64.toInt_inj.mp
            unfold hh_min at f3 ⊢
            by_cases q2 : p3.toInt + p4.toInt < p1.toInt + p2.toInt
            · rw [if_pos q2] at f3
              by_cases q : (LM8 w + if p3 + p4 < p1 + p2 then p3 + p4 else p1 + p2) < x
              · rw [if_pos q, f3]
                rw [h64_lt, f3] at q
                omega
              · rw [if_neg q]
                rw [h64_lt, f3] at q
                omega
            · rw [if_neg q2] at f3
              by_cases q : (LM8 w + if p3 + p4 < p1 + p2 then p3 + p4 else p1 + p2) < x
              · rw [if_pos q, f3]
                rw [h64_lt, f3] at q
                omega
              · rw [if_neg q]
                rw [h64_lt, f3] at q
                omega
          by_cases c3 : x ≤ p1 + LM8 w + p2
          · rw [if_pos c3]
            rw [h64_le, e2] at c3
            by_cases c4 : x ≤ p3 + LM8 w + p4
            · rw [if_pos c4]
              rw [h64_le, e4] at c4
              rw [← least x (by omega) (by omega) (by omega) (by omega)]
              exact ih _ _ (by omega) (by omega) (by omega)
            · rw [if_neg c4]
              rw [h64_le, e4] at c4
              rw [← least (p3 + LM8 w + p4) (by omega) (by omega) (by omega) (by omega)]
              exact ih _ _ (by omega) (by omega) (by omega)
          · rw [if_neg c3]
            rw [h64_le, e2] at c3
            by_cases c4 : p1 + LM8 w + p2 ≤ p3 + LM8 w + p4
            · rw [if_pos c4]
              rw [h64_le, e2, e4] at c4
              rw [← least (p1 + LM8 w + p2) (by omega) (by omega) (by omega) (by omega)]
              exact ih _ _ (by omega) (by omega) (by omega)
            · rw [if_neg c4]
              rw [h64_le, e2, e4] at c4
              rw [← least (p3 + LM8 w + p4) (by omega) (by omega) (by omega) (by omega)]
              exact ih _ _ (by omega) (by omega) (by omega)
        · rw [if_neg c2, if_pos (kb.mpr c2)]
          exact ih _ _ (by omega) hx0 hx1
theorem hy_unit {VM1 VM2 VM3 : Nat} {NM2 : Nat → Nat} {LM0 LM1 LM2 LM3 LM4 LM5 LM6 LM7 LM8 LM9 LM10 LM11 : Nat → Int64} {IM1 IY0 : Nat → Int32} (hv : hv_M VM2 LM0 LM1 LM2 LM3 LM4 LM5 LM6 LM7 LM8 LM9 LM10 LM11) (hy6 : VM3 ≤ 6) (hwk : ∀ i, NM2 i < 12) (hb : hb_bars IY0 IM1) {x3 x6 : Int32} (hx : ∀ w, w < 6 → (nI w = x6 ↔ nI w = x3)) (s f : Nat) :
    f_Site_unitPrice VM1 NM2 LM1 LM9 LM10 LM3 VM3 LM6 LM7 LM8 IY0 s f x6 = f_Model_unit VM1 VM3 NM2 LM1 LM3 LM6 LM7 LM8 LM9 LM10 IM1 s f x3 := by
  obtain ⟨v0, v1, v2, -, v3, -, -, v6, v7, v8, v9, v10, -⟩ := hv
  have hm : 0 ≤ (f_Model_metreOf VM1 LM1 LM9 s).toInt ∧ (f_Model_metreOf VM1 LM1 LM9 s).toInt ≤ 100000 := by
    unfold f_Model_metreOf
    by_cases c : VM1 ≤ s
    · rw [if_pos c]; exact v9 _
    · rw [if_neg c]; exact v1 _
  have ap := hv_apart hm (v3 f)
  have e : f_Model_unit VM1 VM3 NM2 LM1 LM3 LM6 LM7 LM8 LM9 LM10 IM1 s f x3 = f_Model_unit_x27 VM1 s LM10 (f_Ways_unitPrice VM3 LM6 LM7 LM8 IY0 (f_Model_metreOf VM1 LM1 LM9 s) (LM3 f) (NM2 f) x6) 0 := by
    unfold f_Model_unit
    rw [hh_bind, hh_bind]
    unfold f_Ways_unitPrice
    rw [hy_abs hm (v3 f)]
    exact hy_ways hm v6 v7 v3 v8 hy6 (hwk f) hb hx (fun x w w' => rfl) 7 _ 0 (by omega) ap.1 ap.2
  rw [e]
  unfold f_Site_unitPrice f_Model_unit_x27
  have em : f_Site_metreOf VM1 LM1 LM9 s = f_Model_metreOf VM1 LM1 LM9 s := rfl
  by_cases c : VM1 ≤ s
  · rw [if_pos c, if_pos c, hh_bind, hh_bind, em, Int64.add_comm]
  · rw [if_neg c, if_neg c, hh_bind, hh_bind, em, Int64.zero_add]
