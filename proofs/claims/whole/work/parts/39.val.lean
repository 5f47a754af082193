/-! ===== the reference's numbers stay within their bounds ===== -/
theorem h64_mul {x y : Int64} (h1 : -9000000000000000000 ≤ x.toInt * y.toInt) (h2 : x.toInt * y.toInt ≤ 9000000000000000000) : (x * y).toInt = x.toInt * y.toInt := by
  rw [Int64.toInt_mul]
  exact Int.bmod_eq_of_le (by omega) (by omega)
theorem h64_div {x y : Int64} (hx : 0 ≤ x.toInt) (hy : 0 < y.toInt) : (x / y).toInt = x.toInt / y.toInt := by
  have h2 := Int64.toInt_lt x
  rw [Int64.toInt_div, Int.tdiv_eq_ediv_of_nonneg hx]
  have h3 : 0 ≤ x.toInt / y.toInt := Int.ediv_nonneg hx (by omega)
  have h4 : x.toInt / y.toInt ≤ x.toInt := Int.ediv_le_self _ hx
  exact Int.bmod_eq_of_le (by omega) (by omega)
def hv_r (f : Nat → Int64) (hi : Int) : Prop := ∀ i, 0 ≤ (f i).toInt ∧ (f i).toInt ≤ hi
def hv_M (VM2 : Nat) (LM0 LM1 LM2 LM3 LM4 LM5 LM6 LM7 LM8 LM9 LM10 LM11 : Nat → Int64) : Prop :=
  hv_r LM0 1000000 ∧ hv_r LM1 100000 ∧ hv_r LM2 1000000 ∧ (∀ f, f < VM2 → 1 ≤ (LM2 f).toInt) ∧ hv_r LM3 100000 ∧ (∀ i, i < 4 → 1 ≤ (LM4 i).toInt ∧ (LM4 i).toInt ≤ 1000) ∧ (∀ i, i < 4 → 1 ≤ (LM5 i).toInt ∧ (LM5 i).toInt ≤ 1000) ∧ hv_r LM6 100000 ∧ hv_r LM7 100000 ∧ hv_r LM8 100000 ∧ hv_r LM9 100000 ∧ hv_r LM10 100000 ∧ ∀ w, w < 12 → 0 ≤ (LM11 w).toInt ∧ (LM11 w).toInt ≤ 1000000000000
theorem hv_apart {a b : Int64} (ha : 0 ≤ a.toInt ∧ a.toInt ≤ 100000) (hb : 0 ≤ b.toInt ∧ b.toInt ≤ 100000) : 0 ≤ (f_Model_apart a b).toInt ∧ (f_Model_apart a b).toInt ≤ 100000 := by
  unfold f_Model_apart
  by_cases c : b ≤ a
  · rw [if_pos c, h64_sub (by omega) (by omega)]
    rw [h64_le] at c
    omega
  · rw [if_neg c, h64_sub (by omega) (by omega)]
    rw [h64_le] at c
    omega
theorem hv_unit27 {VM3 : Nat} {y2 : Int64} {LM6 LM7 LM3 : Nat → Int64} {x2 : Nat} {x3 : Int32} {IM1 : Nat → Int32} {NM2 : Nat → Nat} {LM8 : Nat → Int64} (h2 : 0 ≤ y2.toInt ∧ y2.toInt ≤ 100000) (h6 : hv_r LM6 100000) (h7 : hv_r LM7 100000) (h3 : hv_r LM3 100000) (h8 : hv_r LM8 100000) {Post : Int64 → Prop} {k : Int64 → Nat → Int64} (hk : ∀ x w, 0 ≤ x.toInt ∧ x.toInt ≤ 100000 → Post (k x w)) :
    ∀ (n : Nat) (x : Int64) (w : Nat), 0 ≤ x.toInt ∧ x.toInt ≤ 100000 → Post (f_Model_unit_h27 VM3 y2 LM6 LM7 LM3 x2 x3 IM1 NM2 LM8 k n x w) := by
  intro n
  induction n with
  | zero => exact fun x w h => hk _ _ h
  | succ n ih =>
    intro x w h
    rw [f_Model_unit_h27]
    unfold f_Model_unit_h27B
    by_cases c : VM3 ≤ w
    · rw [if_pos c]
      exact hk _ _ h
    · rw [if_neg c, hh_bind, hh_bind, hh_bind, hh_bind]
      have a1 := hv_apart h2 (h6 w)
      have a2 := hv_apart (h7 w) (h3 x2)
      have a3 := hv_apart h2 (h7 w)
      have a4 := hv_apart (h6 w) (h3 x2)
      have a8 := h8 w
      generalize f_Model_apart y2 (LM6 w) = p1 at a1 ⊢
      generalize f_Model_apart (LM7 w) (LM3 x2) = p2 at a2 ⊢
      generalize f_Model_apart y2 (LM7 w) = p3 at a3 ⊢
      generalize f_Model_apart (LM6 w) (LM3 x2) = p4 at a4 ⊢
      have e1 : (p1 + LM8 w).toInt = p1.toInt + (LM8 w).toInt := h64_add (by omega) (by omega)
      have e2 : (p1 + LM8 w + p2).toInt = p1.toInt + (LM8 w).toInt + p2.toInt := by rw [h64_add (by omega) (by omega), e1]
      have e3 : (p3 + LM8 w).toInt = p3.toInt + (LM8 w).toInt := h64_add (by omega) (by omega)
      have e4 : (p3 + LM8 w + p4).toInt = p3.toInt + (LM8 w).toInt + p4.toInt := by rw [h64_add (by omega) (by omega), e3]
      by_cases c1 : nI w = x3
      · rw [if_pos c1]
        exact ih _ _ h
      · rw [if_neg c1]
        by_cases c2 : IM1 (12 * w + NM2 x2) = 0
        · rw [if_pos c2]
          by_cases c3 : x ≤ p1 + LM8 w + p2
          · rw [if_pos c3]
            by_cases c4 : x ≤ p3 + LM8 w + p4
            · rw [if_pos c4]
              exact ih _ _ h
            · rw [if_neg c4]
              rw [h64_le] at c4
              exact ih _ _ (by omega)
          · rw [if_neg c3]
            rw [h64_le] at c3
            by_cases c4 : p1 + LM8 w + p2 ≤ p3 + LM8 w + p4
            · rw [if_pos c4]
              exact ih _ _ (by omega)
            · rw [if_neg c4]
              rw [h64_le] at c4
              exact ih _ _ (by omega)
        · rw [if_neg c2]
          exact ih _ _ h
theorem hv_unit {VM1 VM2 VM3 : Nat} {NM2 : Nat → Nat} {LM0 LM1 LM2 LM3 LM4 LM5 LM6 LM7 LM8 LM9 LM10 LM11 : Nat → Int64} {IM1 : Nat → Int32} (h : hv_M VM2 LM0 LM1 LM2 LM3 LM4 LM5 LM6 LM7 LM8 LM9 LM10 LM11) (s f : Nat) (x5 : Int32) : 0 ≤ (f_Model_unit VM1 VM3 NM2 LM1 LM3 LM6 LM7 LM8 LM9 LM10 IM1 s f x5).toInt ∧ (f_Model_unit VM1 VM3 NM2 LM1 LM3 LM6 LM7 LM8 LM9 LM10 IM1 s f x5).toInt ≤ 200000 := by
  obtain ⟨v0, v1, v2, -, v3, -, -, v6, v7, v8, v9, v10, -⟩ := h
  unfold f_Model_unit
  rw [hh_bind, hh_bind]
  have hm : 0 ≤ (f_Model_metreOf VM1 LM1 LM9 s).toInt ∧ (f_Model_metreOf VM1 LM1 LM9 s).toInt ≤ 100000 := by
    unfold f_Model_metreOf
    by_cases c : VM1 ≤ s
    · rw [if_pos c]; exact v9 _
    · rw [if_neg c]; exact v1 _
  refine hv_unit27 (Post := fun r => 0 ≤ r.toInt ∧ r.toInt ≤ 200000) hm v6 v7 v3 v8 (fun x w hx => ?_) 7 _ 0 (hv_apart hm (v3 f))
  unfold f_Model_unit_x27
  by_cases c : VM1 ≤ s
  · rw [if_pos c]
    have := v10 (s - VM1)
    rw [h64_add (by omega) (by omega)]
    omega
  · rw [if_neg c]
    omega
theorem hv_gives {VM2 : Nat} {NM0 : Nat → Nat} {LM0 LM1 LM2 LM3 LM4 LM5 LM6 LM7 LM8 LM9 LM10 LM11 : Nat → Int64} (h : hv_M VM2 LM0 LM1 LM2 LM3 LM4 LM5 LM6 LM7 LM8 LM9 LM10 LM11) (hk : ∀ i, NM0 i < 4) (s : Nat) : 0 ≤ (f_Model_gives NM0 LM0 LM4 LM5 s).toInt ∧ (f_Model_gives NM0 LM0 LM4 LM5 s).toInt ≤ 1000000000 := by
  obtain ⟨v0, -, -, -, -, v4, v5, -⟩ := h
  have a0 := v0 s
  have a4 := v4 (NM0 s) (hk s)
  have a5 := v5 (NM0 s) (hk s)
  unfold f_Model_gives
  have b1 : 0 ≤ (LM0 s).toInt * (LM4 (NM0 s)).toInt := Int.mul_nonneg a0.1 (by omega)
  have b2 : (LM0 s).toInt * (LM4 (NM0 s)).toInt ≤ 1000000 * 1000 := Int.mul_le_mul a0.2 a4.2 (by omega) (by omega)
  have e1 : (LM0 s * LM4 (NM0 s)).toInt = (LM0 s).toInt * (LM4 (NM0 s)).toInt := h64_mul (by omega) (by omega)
  rw [h64_div (by rw [e1]; exact b1) (by omega), e1]
  refine ⟨Int.ediv_nonneg b1 (by omega), ?_⟩
  have := Int.ediv_le_self (LM5 (NM0 s)).toInt b1
  omega
/-- every network that the reference lays is a good one -/
theorem hv_net {VM1 VM2 VM3 VM4 : Nat} {NM0 NM1 NM2 : Nat → Nat} {LM0 LM1 LM2 LM3 LM4 LM5 LM6 LM7 LM8 LM9 LM10 LM11 : Nat → Int64} {IM0 IM1 : Nat → Int32} (x1 x2 : Int32) (x3 : Int64) (x5 : Int32) (LM13 LM14 : Nat → Int64) (h : hv_M VM2 LM0 LM1 LM2 LM3 LM4 LM5 LM6 LM7 LM8 LM9 LM10 LM11) (hk : ∀ i, NM0 i < 4) (hwk : ∀ i, NM2 i < 12) (hF : VM2 ≤ 8) (hn12 : VM1 + VM4 ≤ 12)
    (h3 : -1 ≤ x3.toInt ∧ x3.toInt ≤ 1) (hg : ∀ s, s < VM1 → nI s = x1 → ¬ f_Model_gives NM0 LM0 LM4 LM5 s = 0) :
    hm_Net (f_Model_lay VM1 VM2 VM3 VM4 NM0 NM1 NM2 LM0 LM1 LM2 LM3 LM4 LM5 LM6 LM7 LM8 LM9 LM10 LM11 LM13 LM14 IM0 IM1 x1 x2 x3 x5).1 (f_Model_lay VM1 VM2 VM3 VM4 NM0 NM1 NM2 LM0 LM1 LM2 LM3 LM4 LM5 LM6 LM7 LM8 LM9 LM10 LM11 LM13 LM14 IM0 IM1 x1 x2 x3 x5).2 (fun _ => 0) ∧ (∀ f, f < 8 → ho (f_Model_lay VM1 VM2 VM3 VM4 NM0 NM1 NM2 LM0 LM1 LM2 LM3 LM4 LM5 LM6 LM7 LM8 LM9 LM10 LM11 LM13 LM14 IM0 IM1 x1 x2 x3 x5).1 (13 + f) ≤ 100000000000) ∧
    hm_Cells (VM1 + VM4) VM2 VM1 NM0 NM1 NM2 IM0 (f_Model_lay VM1 VM2 VM3 VM4 NM0 NM1 NM2 LM0 LM1 LM2 LM3 LM4 LM5 LM6 LM7 LM8 LM9 LM10 LM11 LM13 LM14 IM0 IM1 x1 x2 x3 x5).1 0 0 := by
  refine hl_net hn12 hF hwk (f_Model_lay_is hF hn12 hwk LM13 LM14) (fun s hs => ?_) (fun f hf => ?_) (fun w hw => ?_) (fun s f _ _ => ?_)
  · unfold hl_cap
    have a := hv_gives h hk s
    by_cases c : s < VM1
    · rw [if_pos c]
      by_cases c2 : nI s = x1
      · rw [if_pos c2]
        have b := hg s c c2
        have d : (f_Model_gives NM0 LM0 LM4 LM5 s).toInt ≠ 0 := by
          intro e
          apply b
          apply Int64.toInt_inj.mp
          rw [h64_0]
          exact e
        have e1 : (1 : Int64).toInt = 1 := by decide
        rw [h64_sub (by omega) (by omega), e1]
        omega
      · rw [if_neg c2, h64_sub (by rw [h64_0]; omega) (by rw [h64_0]; omega), h64_0]
        omega
    · rw [if_neg c]
      decide
  · unfold hl_wt
    have a := h.2.2.1 f
    have b := h.2.2.2.1 f hf
    by_cases c : nI f = x2
    · rw [if_pos c, h64_add (by omega) (by omega)]
      omega
    · rw [if_neg c, h64_add (by rw [h64_0]; omega) (by rw [h64_0]; omega), h64_0]
      omega
  · have a := h.2.2.2.2.2.2.2.2.2.2.2.2 w hw
    omega
  · have a := hv_unit (VM1 := VM1) (VM3 := VM3) (NM2 := NM2) (IM1 := IM1) h s f x5
    exact ⟨a.1, Int.le_trans a.2 (by decide)⟩
theorem hm_Done.ord {R C : Nat → Int64} {pi : Nat → Int} {r : Int64 × (Nat → Int64) × (Nat → Int64) × (Nat → Int32)} (h : hm_Done R C pi r) (hf : ∀ f, f < 8 → ho R (13 + f) ≤ 100000000000) : hm_Ord r.2.1 C pi := by
  obtain ⟨hN, -, -, hF⟩ := h
  refine ⟨hN.1, hN.2.1, hN.2.2.1, hN.2.2.2.1, hN.pb, fun f hf8 => ?_⟩
  have a := hF.1 (13 + f) (by omega)
  rw [if_neg (by omega), if_neg (by omega)] at a
  have b := hf f hf8
  omega
