/-! ===== the invariant between the class and the reference ===== -/
def hI_S (VS0 : Nat) (VS1 : Nat) (VS2 : Nat) (NS0 : Nat → Nat) (NS1 : Nat → Nat) (NS2 : Nat → Nat) (LS0 : Nat → Int64) (LS1 : Nat → Int64) (LS2 : Nat → Int64) (LS3 : Nat → Int64) (LS4 : Nat → Int64) (LS5 : Nat → Int64) (LS6 : Nat → Int64) (LS7 : Nat → Int64) (LS8 : Nat → Int64) (IS0 : Nat → Int32) (VY0 : Nat) (LY0 : Nat → Int64) (LY1 : Nat → Int64) (LY2 : Nat → Int64) (IY0 : Nat → Int32) (VM1 : Nat) (VM2 : Nat) (VM3 : Nat) (VM4 : Nat) (NM0 : Nat → Nat) (NM1 : Nat → Nat) (NM2 : Nat → Nat) (LM0 : Nat → Int64) (LM1 : Nat → Int64) (LM2 : Nat → Int64) (LM3 : Nat → Int64) (LM4 : Nat → Int64) (LM5 : Nat → Int64) (LM6 : Nat → Int64) (LM7 : Nat → Int64) (LM8 : Nat → Int64) (LM9 : Nat → Int64) (LM10 : Nat → Int64) (LM11 : Nat → Int64) (IM0 : Nat → Int32) (IM1 : Nat → Int32) : Prop :=
  (VS0 = VM1 ∧ VS1 = VM4 ∧ VS2 = VM2 ∧ VY0 = VM3 ∧ NS0 = NM0 ∧ NS1 = NM1 ∧ NS2 = NM2 ∧ LS0 = LM0 ∧ LS1 = LM1 ∧ LS2 = LM9 ∧ LS3 = LM10 ∧ LS4 = LM2 ∧ LS5 = LM3 ∧ LY0 = LM6 ∧ LY1 = LM7 ∧ LY2 = LM8) ∧
  (VM1 ≤ 8 ∧ VM2 ≤ 8 ∧ VM3 ≤ 6 ∧ VM4 ≤ 4 ∧ (∀ i, NM0 i < 4) ∧ (∀ i, NM1 i < 12) ∧ ∀ i, NM2 i < 12) ∧ (∀ i, i < 4 → LS6 i = LM4 i ∧ LS7 i = LM5 i) ∧ (∀ w, w < 12 → LS8 w = LM11 w ∨ (LS8 w = 1099511627776 ∧ LM11 w = 1000000000000)) ∧ hb_bits IS0 IM0 ∧ hb_bars IY0 IM1 ∧ hv_M VM2 LM0 LM1 LM2 LM3 LM4 LM5 LM6 LM7 LM8 LM9 LM10 LM11
def hI_Q (NP0 NT1 : Nat → Nat) (VT0 : Nat) : Prop := (∀ i, NP0 i < 21) ∧ (∀ i, NT1 i < 34) ∧ VT0 ≤ 8
/-- what a source can give, as the plan's idle column counts it -/
def hI_C (VM1 : Nat) (NM0 : Nat → Nat) (LM0 LM4 LM5 : Nat → Int64) (s : Nat) : Int := if s < VM1 then (f_Model_gives NM0 LM0 LM4 LM5 s).toInt else 1099511627776
def hI_u (VM1 VM3 : Nat) (NM2 : Nat → Nat) (LM1 LM3 LM6 LM7 LM8 LM9 LM10 : Nat → Int64) (IM1 : Nat → Int32) (x5 : Int32) (s f : Nat) : Int := (f_Model_unit VM1 VM3 NM2 LM1 LM3 LM6 LM7 LM8 LM9 LM10 IM1 s f x5).toInt
def hI_w (LM2 : Nat → Int64) (f : Nat) : Int := (LM2 f).toInt
def hI_U (VM1 VM2 VM3 VM4 : Nat) (NM0 NM1 NM2 : Nat → Nat) (LM1 LM3 LM6 LM7 LM8 LM9 LM10 : Nat → Int64) (IM0 IM1 : Nat → Int32) (x5 : Int32) (LP0 : Nat → Int64) : Prop := (∀ s f, s < VM1 + VM4 → f < VM2 → LP0 (s * 9 + f) = if f_Model_serves VM1 NM0 NM1 NM2 IM0 s f = 0 then -1 else f_Model_unit VM1 VM3 NM2 LM1 LM3 LM6 LM7 LM8 LM9 LM10 IM1 s f x5) ∧ (∀ s c, s < VM1 + VM4 → VM2 ≤ c → c < 8 → LP0 (s * 9 + c) = -1) ∧ ∀ s, s < VM1 + VM4 → LP0 (s * 9 + 8) = 0
def hI_wks (VM2 : Nat) (NM2 : Nat → Nat) (LM2 : Nat → Int64) (most : Nat → Int) : Prop := ∀ w, w < 12 → hs (fun f => if NM2 f = w then hI_w LM2 f else 0) VM2 ≤ most w
def hI_plan (VP0 VP1 : Nat) (LP0 LP1 LP2 LP3 LS8 : Nat → Int64) (VM1 : Nat) (VM2 : Nat) (VM3 : Nat) (VM4 : Nat) (NM0 : Nat → Nat) (NM1 : Nat → Nat) (NM2 : Nat → Nat) (LM0 : Nat → Int64) (LM1 : Nat → Int64) (LM2 : Nat → Int64) (LM3 : Nat → Int64) (LM4 : Nat → Int64) (LM5 : Nat → Int64) (LM6 : Nat → Int64) (LM7 : Nat → Int64) (LM8 : Nat → Int64) (LM9 : Nat → Int64) (LM10 : Nat → Int64) (LM11 : Nat → Int64) (IM0 : Nat → Int32) (IM1 : Nat → Int32) (WM0 : Int64) (LM12 : Nat → Int64) : Prop :=
  VP0 = VM1 + VM4 ∧ VP1 = VM2 ∧ hI_U VM1 VM2 VM3 VM4 NM0 NM1 NM2 LM1 LM3 LM6 LM7 LM8 LM9 LM10 IM0 IM1 (-2) LP0 ∧ hk_S (VM1 + VM4) VM2 LP0 (hI_C VM1 NM0 LM0 LM4 LM5) (hI_w LM2) LP1 LP2 LP3 ∧ hk_Z (VM1 + VM4) VM2 LP1 LP3 ∧ hI_wks VM2 NM2 LM2 (fun w => (LS8 w).toInt) ∧
  (∀ s f, s < VM1 + VM4 → f < VM2 → hz_lx (VM1 + VM4) VM2 VM1 (hz_svp VM1 NM0 NM1 NM2 IM0) (hI_C VM1 NM0 LM0 LM4 LM5) (hI_w LM2) (hI_u VM1 VM3 NM2 LM1 LM3 LM6 LM7 LM8 LM9 LM10 IM1 (-2)) (hcost (hI_u VM1 VM3 NM2 LM1 LM3 LM6 LM7 LM8 LM9 LM10 IM1 (-2)) (hk_X LP1) (VM1 + VM4) VM2) (hk_X LP1) s f) ∧
  (∀ s f, s < VM1 + VM4 → f < VM2 → LP1 (s * 9 + f) = LM12 (8 * s + f)) ∧ WM0.toInt = hcost (hI_u VM1 VM3 NM2 LM1 LM3 LM6 LM7 LM8 LM9 LM10 IM1 (-2)) (hk_X LP1) (VM1 + VM4) VM2
def hI_clash (VT0 : Nat) (NT0 : Nat → Nat) (LS8 : Nat → Int64) (VM1 : Nat) (VM2 : Nat) (VM3 : Nat) (VM4 : Nat) (NM0 : Nat → Nat) (NM1 : Nat → Nat) (NM2 : Nat → Nat) (LM0 : Nat → Int64) (LM1 : Nat → Int64) (LM2 : Nat → Int64) (LM3 : Nat → Int64) (LM4 : Nat → Int64) (LM5 : Nat → Int64) (LM6 : Nat → Int64) (LM7 : Nat → Int64) (LM8 : Nat → Int64) (LM9 : Nat → Int64) (LM10 : Nat → Int64) (LM11 : Nat → Int64) (IM0 : Nat → Int32) (IM1 : Nat → Int32) (IM2 : Nat → Int32) : Prop :=
  ∃ B v, hn_is (VM1 + VM4) VM2 VM1 (hz_svp VM1 NM0 NM1 NM2 IM0) (hI_C VM1 NM0 LM0 LM4 LM5) (hI_w LM2) NM2 (fun w => (LS8 w).toInt) B v ∧ v < hs (hI_w LM2) VM2 ∧
    (∃ sn, h01 sn ∧ sn 0 = 1 ∧ sn 33 = 0 ∧ ∀ a b, a < 34 → b < 34 → sn a = 1 → 0 < B a b → sn b = 1) ∧
    ∃ c, hc_list c VM2 VT0 NT0 ∧ (∀ f, f < VM2 → (c f = true ↔ ∀ S : Nat → Prop, S (13 + f) → (∀ a b, a < 34 → b < 34 → S a → 0 < B a b → S b) → S (21 + NM2 f))) ∧ ∀ f, f < VM2 → (c f = true ↔ ¬ IM2 f = 0)
def hi_Inv : hi_I := fun VH0 VS0 VS1 VS2 NS0 NS1 NS2 LS0 LS1 LS2 LS3 LS4 LS5 LS6 LS7 LS8 IS0 VY0 LY0 LY1 LY2 IY0 VP0 VP1 VP2 NP0 LP0 LP1 LP2 LP3 LP4 IP0 IP1 VQ0 VQ1 VQ2 NQ0 LQ0 LQ1 LQ2 LQ3 LQ4 IQ0 IQ1 VT0 NT0 NT1 LT0 IT0 VM0 VM1 VM2 VM3 VM4 VM5 WM0 NM0 NM1 NM2 LM0 LM1 LM2 LM3 LM4 LM5 LM6 LM7 LM8 LM9 LM10 LM11 LM12 LM13 LM14 LM15 IM0 IM1 IM2 IM3 => hI_S VS0 VS1 VS2 NS0 NS1 NS2 LS0 LS1 LS2 LS3 LS4 LS5 LS6 LS7 LS8 IS0 VY0 LY0 LY1 LY2 IY0 VM1 VM2 VM3 VM4 NM0 NM1 NM2 LM0 LM1 LM2 LM3 LM4 LM5 LM6 LM7 LM8 LM9 LM10 LM11 IM0 IM1 ∧ hI_Q NP0 NT1 VT0 ∧ VH0 = VM5 ∧ VH0 ≤ 2 ∧ (VH0 = 1 → hI_plan VP0 VP1 LP0 LP1 LP2 LP3 LS8 VM1 VM2 VM3 VM4 NM0 NM1 NM2 LM0 LM1 LM2 LM3 LM4 LM5 LM6 LM7 LM8 LM9 LM10 LM11 IM0 IM1 WM0 LM12) ∧ (VH0 = 2 → hI_clash VT0 NT0 LS8 VM1 VM2 VM3 VM4 NM0 NM1 NM2 LM0 LM1 LM2 LM3 LM4 LM5 LM6 LM7 LM8 LM9 LM10 LM11 IM0 IM1 IM2)
theorem hi_pre : hi_P hi_Inv := by
  intro VH0 VS0 VS1 VS2 NS0 NS1 NS2 LS0 LS1 LS2 LS3 LS4 LS5 LS6 LS7 LS8 IS0 VY0 LY0 LY1 LY2 IY0 VP0 VP1 VP2 NP0 LP0 LP1 LP2 LP3 LP4 IP0 IP1 VQ0 VQ1 VQ2 NQ0 LQ0 LQ1 LQ2 LQ3 LQ4 IQ0 IQ1 VT0 NT0 NT1 LT0 IT0 VM0 VM1 VM2 VM3 VM4 VM5 WM0 NM0 NM1 NM2 LM0 LM1 LM2 LM3 LM4 LM5 LM6 LM7 LM8 LM9 LM10 LM11 LM12 LM13 LM14 LM15 IM0 IM1 IM2 IM3 h
  obtain ⟨⟨⟨e1, e2, e3, e4, e5, e6, e7, e8, e9, e10, e11, e12, e13, e14, e15, e16⟩, ⟨b1, b2, b3, b4, b5, b6, b7⟩, h6, h8, hbits, hbars, hv⟩, ⟨q1, q2, q3⟩, hst, h2, hpl, hcl⟩ := h
  subst e1 e2 e3 e4 e5 e6 e7
  refine ⟨b1, b4, b2, b3, b5, b6, b7, q1, q2, h2, fun h1 => ⟨(hpl h1).1, (hpl h1).2.1⟩, q3, b1, b2, b3, b4, b5, b6, b7, fun i hi e => ?_, by omega, hv⟩
  have := (hv.2.2.2.2.2.2.1 i hi).1
  rw [e, h64_0] at this
  omega
theorem hi_start : hi_0 hi_Inv := by
  have z : (0 : Int64).toInt = 0 := by decide
  have i4 : ∀ i, i < 4 → f_Model_init.1 i = 1 ∧ f_Model_init.2.1 i = 1 := by decide +kernel
  have i12 : ∀ i, i < 12 → f_Model_init.2.2 i = 1000000000000 := by decide +kernel
  have one : (1 : Int64).toInt = 1 := by decide
  have zM : (1000000000000 : Int64).toInt = 1000000000000 := by decide
  have z0 : ∀ (hi : Int), 0 ≤ hi → hv_r (fun _ => 0) hi := fun hi h i => by
    show 0 ≤ (0 : Int64).toInt ∧ (0 : Int64).toInt ≤ hi
    rw [z]
    omega
  refine ⟨⟨⟨rfl, rfl, rfl, rfl, rfl, rfl, rfl, rfl, rfl, rfl, rfl, rfl, rfl, rfl, rfl, rfl⟩, ⟨by omega, by omega, by omega, by omega, fun _ => by show 0 < 4; omega, fun _ => by show 0 < 12; omega, fun _ => by show 0 < 12; omega⟩, fun i hi => ?_, fun w hw => ?_, fun k f hk hf => ?_, fun k f hk hf => ?_, ⟨z0 _ (by omega), z0 _ (by omega), z0 _ (by omega), fun f hf => absurd hf (Nat.not_lt_zero _), z0 _ (by omega), fun i hi => by rw [(i4 i hi).1, one]; omega, fun i hi => by rw [(i4 i hi).2, one]; omega, z0 _ (by omega), z0 _ (by omega), z0 _ (by omega), z0 _ (by omega), z0 _ (by omega), fun w hw => by rw [i12 w hw, zM]; omega⟩⟩, ⟨fun _ => by show 0 < 21; omega, fun _ => by show 0 < 34; omega, by omega⟩, rfl, by omega, fun h => absurd h (by decide), fun h => absurd h (by decide)⟩
  · rw [(i4 i hi).1, (i4 i hi).2]
    unfold hh_fillJ
    rw [if_pos hi]
    exact ⟨rfl, rfl⟩
  · right
    rw [i12 w hw]
    unfold hh_fillJ
    rw [if_pos hw]
    exact ⟨rfl, rfl⟩
  · rw [(hb_bit _ (show f < 12 by omega)).1]
    simp
  · rw [(hb_bit _ hf).2]
    simp
theorem hy_ok {α : Type} {y : Int32} {p : Prop} (hy : y = nI 1 ∧ p ∨ y = nI 0 ∧ ¬ p) (A B : α) : (p → (if y = 0 then A else B) = B) ∧ (¬ p → (if y = 0 then A else B) = A) := by
  rcases hy with ⟨e, h⟩ | ⟨e, h⟩
  · exact ⟨fun _ => by rw [e, if_neg (by decide)], fun q => absurd h q⟩
  · exact ⟨fun q => absurd q h, fun _ => by rw [e, if_pos (by decide)]⟩
theorem hy_in (a lo hi : Int64) : (f_Model_isIn a lo hi = nI 1 ∧ (lo.toInt ≤ a.toInt ∧ a.toInt ≤ hi.toInt)) ∨ (f_Model_isIn a lo hi = nI 0 ∧ ¬ (lo.toInt ≤ a.toInt ∧ a.toInt ≤ hi.toInt)) := by
  unfold f_Model_isIn
  by_cases c : a < lo
  · rw [if_pos c]
    rw [h64_lt] at c
    exact Or.inr ⟨rfl, by omega⟩
  · rw [if_neg c]
    rw [h64_lt] at c
    by_cases d : hi < a
    · rw [if_pos d]
      rw [h64_lt] at d
      exact Or.inr ⟨rfl, by omega⟩
    · rw [if_neg d]
      rw [h64_lt] at d
      exact Or.inl ⟨rfl, by omega⟩
theorem hy_below (x : Int32) {k : Nat} (hk : k < 2 ^ 31) : (f_HaulFlows_isBelow x (nI k) = nI 1 ∧ (0 ≤ x.toInt ∧ x.toInt < k)) ∨ (f_HaulFlows_isBelow x (nI k) = nI 0 ∧ ¬ (0 ≤ x.toInt ∧ x.toInt < k)) := by
  unfold f_HaulFlows_isBelow
  have z : (0 : Int32).toInt = 0 := by decide
  by_cases c : x < 0
  · rw [if_pos c]
    rw [Int32.lt_iff_toInt_lt, z] at c
    exact Or.inr ⟨rfl, by omega⟩
  · rw [if_neg c]
    rw [Int32.lt_iff_toInt_lt, z] at c
    by_cases d : nI k ≤ x
    · rw [if_pos d]
      rw [Int32.le_iff_toInt_le, nI_toInt hk] at d
      exact Or.inr ⟨rfl, by omega⟩
    · rw [if_neg d]
      rw [Int32.le_iff_toInt_le, nI_toInt hk] at d
      exact Or.inl ⟨rfl, by omega⟩
theorem hy_rng {f : Int64 → Int32} {lo hi : Int64} (hf : ∀ a, f a = if a < lo then nI 0 else if hi < a then nI 0 else nI 1) (a : Int64) : f a = f_Model_isIn a lo hi := by
  rw [hf]
  rfl
theorem hy_clamp {x : Int32} (h : 0 ≤ x.toInt) : (x.toNatClampNeg : Int) = x.toInt ∧ nI x.toNatClampNeg = x := by
  have e : (x.toNatClampNeg : Int) = x.toInt := by
    unfold Int32.toNatClampNeg
    exact Int.toNat_of_nonneg h
  refine ⟨e, Int32.toInt_inj.mp ?_⟩
  have b := Int32.toInt_lt x
  rw [nI_toInt (by omega)]
  exact e
theorem hy_64 (x : Int32) : x.toInt64.toInt = x.toInt := Int32.toInt_toInt64 x
theorem hy_n64 {k : Nat} (h : k < 100) : ((nI k).toInt64 - 1).toInt = (k : Int) - 1 := by
  have e : ((nI k).toInt64).toInt = k := by rw [hy_64, nI_toInt (by omega)]
  have o : (1 : Int64).toInt = 1 := by decide
  rw [h64_sub (by omega) (by omega), e, o]
theorem hv_r_upd {f : Nat → Int64} {hi : Int} (h : hv_r f hi) {k : Nat} {v : Int64} (hv : 0 ≤ v.toInt ∧ v.toInt ≤ hi) : hv_r (vp_updL f k v) hi := by
  intro i
  by_cases e : i = k
  · subst e; rw [hp_updL]; exact hv
  · rw [hp_updLn _ _ e]; exact h i
theorem hy_upN {f : Nat → Nat} {b k v : Nat} (h : ∀ i, f i < b) (hv : v < b) : ∀ i, va_up f k v i < b := by
  intro i
  by_cases e : i = k
  · subst e; rw [va_up_self]; exact hv
  · rw [va_up_ne _ _ e]; exact h i
theorem hi_cut_is : hi_cut hi_Inv := by
  intro VH0 VS0 VS1 VS2 NS0 NS1 NS2 LS0 LS1 LS2 LS3 LS4 LS5 LS6 LS7 LS8 IS0 VY0 LY0 LY1 LY2 IY0 VP0 VP1 VP2 NP0 LP0 LP1 LP2 LP3 LP4 IP0 IP1 VQ0 VQ1 VQ2 NQ0 LQ0 LQ1 LQ2 LQ3 LQ4 IQ0 IQ1 VT0 NT0 NT1 LT0 IT0 VM0 VM1 VM2 VM3 VM4 VM5 WM0 NM0 NM1 NM2 LM0 LM1 LM2 LM3 LM4 LM5 LM6 LM7 LM8 LM9 LM10 LM11 LM12 LM13 LM14 LM15 IM0 IM1 IM2 IM3 x1 x3 x4 x5 h
  obtain ⟨⟨⟨e1, e2, e3, e4, e5, e6, e7, e8, e9, e10, e11, e12, e13, e14, e15, e16⟩, ⟨b1, b2, b3, b4, b5, b6, b7⟩, h6, h8, hbits, hbars, hv⟩, ⟨q1, q2, q3⟩, hst, h2, hpl, hcl⟩ := id h
  subst e1 e2 e3 e4 e5 e6 e7 e8 e9 e10 e11 e12 e13 e14 e15 e16
  obtain ⟨v0, v1, v2, v2p, v3, v4, v5, v6, v7, v8, v9, v10, v11⟩ := id hv
  have one : (1 : Int64).toInt = 1 := by decide
  have z64 : (0 : Int64).toInt = 0 := by decide
  have m6 : (1000000 : Int64).toInt = 1000000 := by decide
  have m5 : (100000 : Int64).toInt = 100000 := by decide
  have m3 : (1000 : Int64).toInt = 1000 := by decide
  have m7 : (10000000 : Int64).toInt = 10000000 := by decide
  have n3 : (3 : Int64).toInt = 3 := by decide
  have n11 : (11 : Int64).toInt = 11 := by decide
  have c0 : (f_HaulFlows_isVolume x1 = nI 1 ∧ (1 ≤ x1.toInt ∧ x1.toInt ≤ 1000000)) ∨ (f_HaulFlows_isVolume x1 = nI 0 ∧ ¬ (1 ≤ x1.toInt ∧ x1.toInt ≤ 1000000)) := by have k := hy_in x1 1 1000000; rw [one, m6] at k; exact k
  have m0 : (f_Model_isIn x1 1 1000000 = nI 1 ∧ (1 ≤ x1.toInt ∧ x1.toInt ≤ 1000000)) ∨ (f_Model_isIn x1 1 1000000 = nI 0 ∧ ¬ (1 ≤ x1.toInt ∧ x1.toInt ≤ 1000000)) := by have k := hy_in x1 1 1000000; rw [one, m6] at k; exact k
  have c1 : (f_HaulFlows_isBelow x3 (nI 4) = nI 1 ∧ (0 ≤ x3.toInt ∧ x3.toInt < 4)) ∨ (f_HaulFlows_isBelow x3 (nI 4) = nI 0 ∧ ¬ (0 ≤ x3.toInt ∧ x3.toInt < 4)) := hy_below x3 (show 4 < 2 ^ 31 by omega)
  have m1 : (f_Model_isIn x3.toInt64 0 3 = nI 1 ∧ (0 ≤ x3.toInt ∧ x3.toInt < 4)) ∨ (f_Model_isIn x3.toInt64 0 3 = nI 0 ∧ ¬ (0 ≤ x3.toInt ∧ x3.toInt < 4)) := by have k := hy_in x3.toInt64 0 3; rw [z64, n3, hy_64] at k; rcases k with ⟨k1, k2⟩ | ⟨k1, k2⟩; exact Or.inl ⟨k1, by omega⟩; exact Or.inr ⟨k1, by omega⟩
  have c2 : (f_HaulFlows_isBelow x4 (nI 12) = nI 1 ∧ (0 ≤ x4.toInt ∧ x4.toInt < 12)) ∨ (f_HaulFlows_isBelow x4 (nI 12) = nI 0 ∧ ¬ (0 ≤ x4.toInt ∧ x4.toInt < 12)) := hy_below x4 (show 12 < 2 ^ 31 by omega)
  have m2 : (f_Model_isIn x4.toInt64 0 11 = nI 1 ∧ (0 ≤ x4.toInt ∧ x4.toInt < 12)) ∨ (f_Model_isIn x4.toInt64 0 11 = nI 0 ∧ ¬ (0 ≤ x4.toInt ∧ x4.toInt < 12)) := by have k := hy_in x4.toInt64 0 11; rw [z64, n11, hy_64] at k; rcases k with ⟨k1, k2⟩ | ⟨k1, k2⟩; exact Or.inl ⟨k1, by omega⟩; exact Or.inr ⟨k1, by omega⟩
  have c3 : (f_HaulFlows_isMetre x5 = nI 1 ∧ (0 ≤ x5.toInt ∧ x5.toInt ≤ 100000)) ∨ (f_HaulFlows_isMetre x5 = nI 0 ∧ ¬ (0 ≤ x5.toInt ∧ x5.toInt ≤ 100000)) := by have k := hy_in x5 0 100000; rw [z64, m5] at k; exact k
  have m3 : (f_Model_isIn x5 0 100000 = nI 1 ∧ (0 ≤ x5.toInt ∧ x5.toInt ≤ 100000)) ∨ (f_Model_isIn x5 0 100000 = nI 0 ∧ ¬ (0 ≤ x5.toInt ∧ x5.toInt ≤ 100000)) := by have k := hy_in x5 0 100000; rw [z64, m5] at k; exact k
  unfold f_HaulFlows_cut f_Model_cut
  simp only [hh_bind]
  rcases c0 with ⟨cy0, p0⟩ | ⟨cy0, p0⟩
  case inr =>
    have my : f_Model_isIn x1 1 1000000 = nI 0 := by rcases m0 with ⟨a, b⟩ | ⟨a, b⟩; exact absurd b p0; exact a
    simp only [cy0, my, show (nI 0 = 0) = True from eq_true (by decide), if_true]
    exact ⟨by first | trivial | rfl, h⟩
  have my0 : f_Model_isIn x1 1 1000000 = nI 1 := by rcases m0 with ⟨a, b⟩ | ⟨a, b⟩; exact a; exact absurd p0 b
  simp only [cy0, my0, show (nI 1 = 0) = False from eq_false (by decide), if_false]
  rcases c1 with ⟨cy1, p1⟩ | ⟨cy1, p1⟩
  case inr =>
    have my : f_Model_isIn x3.toInt64 0 3 = nI 0 := by rcases m1 with ⟨a, b⟩ | ⟨a, b⟩; exact absurd b p1; exact a
    simp only [cy1, my, show (nI 0 = 0) = True from eq_true (by decide), if_true]
    exact ⟨by first | trivial | rfl, h⟩
  have my1 : f_Model_isIn x3.toInt64 0 3 = nI 1 := by rcases m1 with ⟨a, b⟩ | ⟨a, b⟩; exact a; exact absurd p1 b
  simp only [cy1, my1, show (nI 1 = 0) = False from eq_false (by decide), if_false]
  rcases c2 with ⟨cy2, p2⟩ | ⟨cy2, p2⟩
  case inr =>
    have my : f_Model_isIn x4.toInt64 0 11 = nI 0 := by rcases m2 with ⟨a, b⟩ | ⟨a, b⟩; exact absurd b p2; exact a
    simp only [cy2, my, show (nI 0 = 0) = True from eq_true (by decide), if_true]
    exact ⟨by first | trivial | rfl, h⟩
  have my2 : f_Model_isIn x4.toInt64 0 11 = nI 1 := by rcases m2 with ⟨a, b⟩ | ⟨a, b⟩; exact a; exact absurd p2 b
  simp only [cy2, my2, show (nI 1 = 0) = False from eq_false (by decide), if_false]
  rcases c3 with ⟨cy3, p3⟩ | ⟨cy3, p3⟩
  case inr =>
    have my : f_Model_isIn x5 0 100000 = nI 0 := by rcases m3 with ⟨a, b⟩ | ⟨a, b⟩; exact absurd b p3; exact a
    simp only [cy3, my, show (nI 0 = 0) = True from eq_true (by decide), if_true]
    exact ⟨by first | trivial | rfl, h⟩
  have my3 : f_Model_isIn x5 0 100000 = nI 1 := by rcases m3 with ⟨a, b⟩ | ⟨a, b⟩; exact a; exact absurd p3 b
  simp only [cy3, my3, show (nI 1 = 0) = False from eq_false (by decide), if_false]
  by_cases cl : VS0 < 8
  case neg =>
    rw [if_neg cl, if_pos (show VS0 = 8 by omega)]
    exact ⟨by first | trivial | rfl, h⟩
  rw [if_pos cl, if_neg (show ¬ VS0 = 8 by omega)]
  have k3 := hy_clamp p1.1
  have k4 := hy_clamp p2.1
  refine ⟨by first | trivial | rfl, ⟨⟨⟨rfl, rfl, rfl, rfl, rfl, rfl, rfl, rfl, rfl, rfl, rfl, rfl, rfl, rfl, rfl, rfl⟩, ⟨by show VS0 + 1 ≤ 8; omega, b2, b3, b4, hy_upN b5 (by omega), hy_upN b6 (by omega), b7⟩, h6, h8, hbits, hbars, ⟨hv_r_upd v0 (by omega), hv_r_upd v1 p3, v2, v2p, v3, v4, v5, v6, v7, v8, v9, v10, v11⟩⟩, ⟨q1, q2, q3⟩, rfl, Nat.zero_le _, fun z => absurd (show 0 = 1 from z) (by decide), fun z => absurd (show 0 = 2 from z) (by decide)⟩⟩
theorem hi_fill_is : hi_fill hi_Inv := by
  intro VH0 VS0 VS1 VS2 NS0 NS1 NS2 LS0 LS1 LS2 LS3 LS4 LS5 LS6 LS7 LS8 IS0 VY0 LY0 LY1 LY2 IY0 VP0 VP1 VP2 NP0 LP0 LP1 LP2 LP3 LP4 IP0 IP1 VQ0 VQ1 VQ2 NQ0 LQ0 LQ1 LQ2 LQ3 LQ4 IQ0 IQ1 VT0 NT0 NT1 LT0 IT0 VM0 VM1 VM2 VM3 VM4 VM5 WM0 NM0 NM1 NM2 LM0 LM1 LM2 LM3 LM4 LM5 LM6 LM7 LM8 LM9 LM10 LM11 LM12 LM13 LM14 LM15 IM0 IM1 IM2 IM3 x1 x3 x4 h
  obtain ⟨⟨⟨e1, e2, e3, e4, e5, e6, e7, e8, e9, e10, e11, e12, e13, e14, e15, e16⟩, ⟨b1, b2, b3, b4, b5, b6, b7⟩, h6, h8, hbits, hbars, hv⟩, ⟨q1, q2, q3⟩, hst, h2, hpl, hcl⟩ := id h
  subst e1 e2 e3 e4 e5 e6 e7 e8 e9 e10 e11 e12 e13 e14 e15 e16
  obtain ⟨v0, v1, v2, v2p, v3, v4, v5, v6, v7, v8, v9, v10, v11⟩ := id hv
  have one : (1 : Int64).toInt = 1 := by decide
  have z64 : (0 : Int64).toInt = 0 := by decide
  have m6 : (1000000 : Int64).toInt = 1000000 := by decide
  have m5 : (100000 : Int64).toInt = 100000 := by decide
  have m3 : (1000 : Int64).toInt = 1000 := by decide
  have m7 : (10000000 : Int64).toInt = 10000000 := by decide
  have n3 : (3 : Int64).toInt = 3 := by decide
  have n11 : (11 : Int64).toInt = 11 := by decide
  have c0 : (f_HaulFlows_isVolume x1 = nI 1 ∧ (1 ≤ x1.toInt ∧ x1.toInt ≤ 1000000)) ∨ (f_HaulFlows_isVolume x1 = nI 0 ∧ ¬ (1 ≤ x1.toInt ∧ x1.toInt ≤ 1000000)) := by have k := hy_in x1 1 1000000; rw [one, m6] at k; exact k
  have m0 : (f_Model_isIn x1 1 1000000 = nI 1 ∧ (1 ≤ x1.toInt ∧ x1.toInt ≤ 1000000)) ∨ (f_Model_isIn x1 1 1000000 = nI 0 ∧ ¬ (1 ≤ x1.toInt ∧ x1.toInt ≤ 1000000)) := by have k := hy_in x1 1 1000000; rw [one, m6] at k; exact k
  have c1 : (f_HaulFlows_isBelow x3 (nI 12) = nI 1 ∧ (0 ≤ x3.toInt ∧ x3.toInt < 12)) ∨ (f_HaulFlows_isBelow x3 (nI 12) = nI 0 ∧ ¬ (0 ≤ x3.toInt ∧ x3.toInt < 12)) := hy_below x3 (show 12 < 2 ^ 31 by omega)
  have m1 : (f_Model_isIn x3.toInt64 0 11 = nI 1 ∧ (0 ≤ x3.toInt ∧ x3.toInt < 12)) ∨ (f_Model_isIn x3.toInt64 0 11 = nI 0 ∧ ¬ (0 ≤ x3.toInt ∧ x3.toInt < 12)) := by have k := hy_in x3.toInt64 0 11; rw [z64, n11, hy_64] at k; rcases k with ⟨k1, k2⟩ | ⟨k1, k2⟩; exact Or.inl ⟨k1, by omega⟩; exact Or.inr ⟨k1, by omega⟩
  have c2 : (f_HaulFlows_isMetre x4 = nI 1 ∧ (0 ≤ x4.toInt ∧ x4.toInt ≤ 100000)) ∨ (f_HaulFlows_isMetre x4 = nI 0 ∧ ¬ (0 ≤ x4.toInt ∧ x4.toInt ≤ 100000)) := by have k := hy_in x4 0 100000; rw [z64, m5] at k; exact k
  have m2 : (f_Model_isIn x4 0 100000 = nI 1 ∧ (0 ≤ x4.toInt ∧ x4.toInt ≤ 100000)) ∨ (f_Model_isIn x4 0 100000 = nI 0 ∧ ¬ (0 ≤ x4.toInt ∧ x4.toInt ≤ 100000)) := by have k := hy_in x4 0 100000; rw [z64, m5] at k; exact k
  unfold f_HaulFlows_fill f_Model_fill
  simp only [hh_bind]
  rcases c0 with ⟨cy0, p0⟩ | ⟨cy0, p0⟩
  case inr =>
    have my : f_Model_isIn x1 1 1000000 = nI 0 := by rcases m0 with ⟨a, b⟩ | ⟨a, b⟩; exact absurd b p0; exact a
    simp only [cy0, my, show (nI 0 = 0) = True from eq_true (by decide), if_true]
    exact ⟨by first | trivial | rfl, h⟩
  have my0 : f_Model_isIn x1 1 1000000 = nI 1 := by rcases m0 with ⟨a, b⟩ | ⟨a, b⟩; exact a; exact absurd p0 b
  simp only [cy0, my0, show (nI 1 = 0) = False from eq_false (by decide), if_false]
  rcases c1 with ⟨cy1, p1⟩ | ⟨cy1, p1⟩
  case inr =>
    have my : f_Model_isIn x3.toInt64 0 11 = nI 0 := by rcases m1 with ⟨a, b⟩ | ⟨a, b⟩; exact absurd b p1; exact a
    simp only [cy1, my, show (nI 0 = 0) = True from eq_true (by decide), if_true]
    exact ⟨by first | trivial | rfl, h⟩
  have my1 : f_Model_isIn x3.toInt64 0 11 = nI 1 := by rcases m1 with ⟨a, b⟩ | ⟨a, b⟩; exact a; exact absurd p1 b
  simp only [cy1, my1, show (nI 1 = 0) = False from eq_false (by decide), if_false]
  rcases c2 with ⟨cy2, p2⟩ | ⟨cy2, p2⟩
  case inr =>
    have my : f_Model_isIn x4 0 100000 = nI 0 := by rcases m2 with ⟨a, b⟩ | ⟨a, b⟩; exact absurd b p2; exact a
    simp only [cy2, my, show (nI 0 = 0) = True from eq_true (by decide), if_true]
    exact ⟨by first | trivial | rfl, h⟩
  have my2 : f_Model_isIn x4 0 100000 = nI 1 := by rcases m2 with ⟨a, b⟩ | ⟨a, b⟩; exact a; exact absurd p2 b
  simp only [cy2, my2, show (nI 1 = 0) = False from eq_false (by decide), if_false]
  by_cases cl : VS2 < 8
  case neg =>
    rw [if_neg cl, if_pos (show VS2 = 8 by omega)]
    exact ⟨by first | trivial | rfl, h⟩
  rw [if_pos cl, if_neg (show ¬ VS2 = 8 by omega)]
  have k3 := hy_clamp p1.1
  refine ⟨by first | trivial | rfl, ⟨⟨⟨rfl, rfl, rfl, rfl, rfl, rfl, rfl, rfl, rfl, rfl, rfl, rfl, rfl, rfl, rfl, rfl⟩, ⟨b1, by show VS2 + 1 ≤ 8; omega, b3, b4, b5, b6, hy_upN b7 (by omega)⟩, h6, h8, hbits, hbars, ⟨v0, v1, hv_r_upd v2 (by omega), fun f hf => ?_, hv_r_upd v3 p2, v4, v5, v6, v7, v8, v9, v10, v11⟩⟩, ⟨q1, q2, q3⟩, rfl, Nat.zero_le _, fun z => absurd (show 0 = 1 from z) (by decide), fun z => absurd (show 0 = 2 from z) (by decide)⟩⟩
  have hf' : f < VS2 + 1 := hf
  show 1 ≤ (vp_updL LS4 VS2 x1 f).toInt
  by_cases e : f = VS2
  · rw [e, hp_updL]; exact p0.1
  · rw [hp_updLn _ _ e]; exact v2p f (by omega)
theorem hi_swell_is : hi_swell hi_Inv := by
  intro VH0 VS0 VS1 VS2 NS0 NS1 NS2 LS0 LS1 LS2 LS3 LS4 LS5 LS6 LS7 LS8 IS0 VY0 LY0 LY1 LY2 IY0 VP0 VP1 VP2 NP0 LP0 LP1 LP2 LP3 LP4 IP0 IP1 VQ0 VQ1 VQ2 NQ0 LQ0 LQ1 LQ2 LQ3 LQ4 IQ0 IQ1 VT0 NT0 NT1 LT0 IT0 VM0 VM1 VM2 VM3 VM4 VM5 WM0 NM0 NM1 NM2 LM0 LM1 LM2 LM3 LM4 LM5 LM6 LM7 LM8 LM9 LM10 LM11 LM12 LM13 LM14 LM15 IM0 IM1 IM2 IM3 x1 x2 x4 h
  obtain ⟨⟨⟨e1, e2, e3, e4, e5, e6, e7, e8, e9, e10, e11, e12, e13, e14, e15, e16⟩, ⟨b1, b2, b3, b4, b5, b6, b7⟩, h6, h8, hbits, hbars, hv⟩, ⟨q1, q2, q3⟩, hst, h2, hpl, hcl⟩ := id h
  subst e1 e2 e3 e4 e5 e6 e7 e8 e9 e10 e11 e12 e13 e14 e15 e16
  obtain ⟨v0, v1, v2, v2p, v3, v4, v5, v6, v7, v8, v9, v10, v11⟩ := id hv
  have one : (1 : Int64).toInt = 1 := by decide
  have z64 : (0 : Int64).toInt = 0 := by decide
  have m6 : (1000000 : Int64).toInt = 1000000 := by decide
  have m5 : (100000 : Int64).toInt = 100000 := by decide
  have m3 : (1000 : Int64).toInt = 1000 := by decide
  have m7 : (10000000 : Int64).toInt = 10000000 := by decide
  have n3 : (3 : Int64).toInt = 3 := by decide
  have n11 : (11 : Int64).toInt = 11 := by decide
  have c0 : (f_HaulFlows_isBelow x1 (nI 4) = nI 1 ∧ (0 ≤ x1.toInt ∧ x1.toInt < 4)) ∨ (f_HaulFlows_isBelow x1 (nI 4) = nI 0 ∧ ¬ (0 ≤ x1.toInt ∧ x1.toInt < 4)) := hy_below x1 (show 4 < 2 ^ 31 by omega)
  have m0 : (f_Model_isIn x1.toInt64 0 3 = nI 1 ∧ (0 ≤ x1.toInt ∧ x1.toInt < 4)) ∨ (f_Model_isIn x1.toInt64 0 3 = nI 0 ∧ ¬ (0 ≤ x1.toInt ∧ x1.toInt < 4)) := by have k := hy_in x1.toInt64 0 3; rw [z64, n3, hy_64] at k; rcases k with ⟨k1, k2⟩ | ⟨k1, k2⟩; exact Or.inl ⟨k1, by omega⟩; exact Or.inr ⟨k1, by omega⟩
  have c1 : (f_HaulFlows_isSwell x2 = nI 1 ∧ (1 ≤ x2.toInt ∧ x2.toInt ≤ 1000)) ∨ (f_HaulFlows_isSwell x2 = nI 0 ∧ ¬ (1 ≤ x2.toInt ∧ x2.toInt ≤ 1000)) := by have k := hy_in x2 1 1000; rw [one, m3] at k; exact k
  have m1 : (f_Model_isIn x2 1 1000 = nI 1 ∧ (1 ≤ x2.toInt ∧ x2.toInt ≤ 1000)) ∨ (f_Model_isIn x2 1 1000 = nI 0 ∧ ¬ (1 ≤ x2.toInt ∧ x2.toInt ≤ 1000)) := by have k := hy_in x2 1 1000; rw [one, m3] at k; exact k
  have c2 : (f_HaulFlows_isSwell x4 = nI 1 ∧ (1 ≤ x4.toInt ∧ x4.toInt ≤ 1000)) ∨ (f_HaulFlows_isSwell x4 = nI 0 ∧ ¬ (1 ≤ x4.toInt ∧ x4.toInt ≤ 1000)) := by have k := hy_in x4 1 1000; rw [one, m3] at k; exact k
  have m2 : (f_Model_isIn x4 1 1000 = nI 1 ∧ (1 ≤ x4.toInt ∧ x4.toInt ≤ 1000)) ∨ (f_Model_isIn x4 1 1000 = nI 0 ∧ ¬ (1 ≤ x4.toInt ∧ x4.toInt ≤ 1000)) := by have k := hy_in x4 1 1000; rw [one, m3] at k; exact k
  unfold f_HaulFlows_swell f_Model_swell
  simp only [hh_bind]
  rcases c0 with ⟨cy0, p0⟩ | ⟨cy0, p0⟩
  case inr =>
    have my : f_Model_isIn x1.toInt64 0 3 = nI 0 := by rcases m0 with ⟨a, b⟩ | ⟨a, b⟩; exact absurd b p0; exact a
    simp only [cy0, my, show (nI 0 = 0) = True from eq_true (by decide), if_true]
    exact ⟨by first | trivial | rfl, h⟩
  have my0 : f_Model_isIn x1.toInt64 0 3 = nI 1 := by rcases m0 with ⟨a, b⟩ | ⟨a, b⟩; exact a; exact absurd p0 b
  simp only [cy0, my0, show (nI 1 = 0) = False from eq_false (by decide), if_false]
  rcases c1 with ⟨cy1, p1⟩ | ⟨cy1, p1⟩
  case inr =>
    have my : f_Model_isIn x2 1 1000 = nI 0 := by rcases m1 with ⟨a, b⟩ | ⟨a, b⟩; exact absurd b p1; exact a
    simp only [cy1, my, show (nI 0 = 0) = True from eq_true (by decide), if_true]
    exact ⟨by first | trivial | rfl, h⟩
  have my1 : f_Model_isIn x2 1 1000 = nI 1 := by rcases m1 with ⟨a, b⟩ | ⟨a, b⟩; exact a; exact absurd p1 b
  simp only [cy1, my1, show (nI 1 = 0) = False from eq_false (by decide), if_false]
  rcases c2 with ⟨cy2, p2⟩ | ⟨cy2, p2⟩
  case inr =>
    have my : f_Model_isIn x4 1 1000 = nI 0 := by rcases m2 with ⟨a, b⟩ | ⟨a, b⟩; exact absurd b p2; exact a
    simp only [cy2, my, show (nI 0 = 0) = True from eq_true (by decide), if_true]
    exact ⟨by first | trivial | rfl, h⟩
  have my2 : f_Model_isIn x4 1 1000 = nI 1 := by rcases m2 with ⟨a, b⟩ | ⟨a, b⟩; exact a; exact absurd p2 b
  simp only [cy2, my2, show (nI 1 = 0) = False from eq_false (by decide), if_false]
  have k3 := hy_clamp p0.1
  refine ⟨by first | trivial | rfl, ⟨⟨⟨rfl, rfl, rfl, rfl, rfl, rfl, rfl, rfl, rfl, rfl, rfl, rfl, rfl, rfl, rfl, rfl⟩, ⟨b1, b2, b3, b4, b5, b6, b7⟩, fun i hi => ?_, h8, hbits, hbars, ⟨v0, v1, v2, v2p, v3, fun i hi => ?_, fun i hi => ?_, v6, v7, v8, v9, v10, v11⟩⟩, ⟨q1, q2, q3⟩, rfl, Nat.zero_le _, fun z => absurd (show 0 = 1 from z) (by decide), fun z => absurd (show 0 = 2 from z) (by decide)⟩⟩
  · have k := h6 i hi
    by_cases e : i = x1.toNatClampNeg
    · rw [e, hp_updL, hp_updL, hp_updL, hp_updL]
      exact ⟨rfl, rfl⟩
    · rw [hp_updLn _ _ e, hp_updLn _ _ e, hp_updLn _ _ e, hp_updLn _ _ e]
      exact k
  · by_cases e : i = x1.toNatClampNeg
    · rw [e, hp_updL]; exact p1
    · rw [hp_updLn _ _ e]; exact v4 i hi
  · by_cases e : i = x1.toNatClampNeg
    · rw [e, hp_updL]; exact p2
    · rw [hp_updLn _ _ e]; exact v5 i hi
theorem hi_fits_is : hi_fits hi_Inv := by
  intro VH0 VS0 VS1 VS2 NS0 NS1 NS2 LS0 LS1 LS2 LS3 LS4 LS5 LS6 LS7 LS8 IS0 VY0 LY0 LY1 LY2 IY0 VP0 VP1 VP2 NP0 LP0 LP1 LP2 LP3 LP4 IP0 IP1 VQ0 VQ1 VQ2 NQ0 LQ0 LQ1 LQ2 LQ3 LQ4 IQ0 IQ1 VT0 NT0 NT1 LT0 IT0 VM0 VM1 VM2 VM3 VM4 VM5 WM0 NM0 NM1 NM2 LM0 LM1 LM2 LM3 LM4 LM5 LM6 LM7 LM8 LM9 LM10 LM11 LM12 LM13 LM14 LM15 IM0 IM1 IM2 IM3 x1 x2 x3 h
  obtain ⟨⟨⟨e1, e2, e3, e4, e5, e6, e7, e8, e9, e10, e11, e12, e13, e14, e15, e16⟩, ⟨b1, b2, b3, b4, b5, b6, b7⟩, h6, h8, hbits, hbars, hv⟩, ⟨q1, q2, q3⟩, hst, h2, hpl, hcl⟩ := id h
  subst e1 e2 e3 e4 e5 e6 e7 e8 e9 e10 e11 e12 e13 e14 e15 e16
  obtain ⟨v0, v1, v2, v2p, v3, v4, v5, v6, v7, v8, v9, v10, v11⟩ := id hv
  have one : (1 : Int64).toInt = 1 := by decide
  have z64 : (0 : Int64).toInt = 0 := by decide
  have m6 : (1000000 : Int64).toInt = 1000000 := by decide
  have m5 : (100000 : Int64).toInt = 100000 := by decide
  have m3 : (1000 : Int64).toInt = 1000 := by decide
  have m7 : (10000000 : Int64).toInt = 10000000 := by decide
  have n3 : (3 : Int64).toInt = 3 := by decide
  have n11 : (11 : Int64).toInt = 11 := by decide
  have c0 : (f_HaulFlows_isBelow x1 (nI 4) = nI 1 ∧ (0 ≤ x1.toInt ∧ x1.toInt < 4)) ∨ (f_HaulFlows_isBelow x1 (nI 4) = nI 0 ∧ ¬ (0 ≤ x1.toInt ∧ x1.toInt < 4)) := hy_below x1 (show 4 < 2 ^ 31 by omega)
  have m0 : (f_Model_isIn x1.toInt64 0 3 = nI 1 ∧ (0 ≤ x1.toInt ∧ x1.toInt < 4)) ∨ (f_Model_isIn x1.toInt64 0 3 = nI 0 ∧ ¬ (0 ≤ x1.toInt ∧ x1.toInt < 4)) := by have k := hy_in x1.toInt64 0 3; rw [z64, n3, hy_64] at k; rcases k with ⟨k1, k2⟩ | ⟨k1, k2⟩; exact Or.inl ⟨k1, by omega⟩; exact Or.inr ⟨k1, by omega⟩
  have c1 : (f_HaulFlows_isBelow x2 (nI VS2) = nI 1 ∧ (0 ≤ x2.toInt ∧ x2.toInt < VS2)) ∨ (f_HaulFlows_isBelow x2 (nI VS2) = nI 0 ∧ ¬ (0 ≤ x2.toInt ∧ x2.toInt < VS2)) := hy_below x2 (show VS2 < 2 ^ 31 by omega)
  have m1 : (f_Model_isIn x2.toInt64 0 ((nI VS2).toInt64 - 1) = nI 1 ∧ (0 ≤ x2.toInt ∧ x2.toInt < VS2)) ∨ (f_Model_isIn x2.toInt64 0 ((nI VS2).toInt64 - 1) = nI 0 ∧ ¬ (0 ≤ x2.toInt ∧ x2.toInt < VS2)) := by have k := hy_in x2.toInt64 0 ((nI VS2).toInt64 - 1); rw [z64, hy_n64 (by omega), hy_64] at k; rcases k with ⟨k1, k2⟩ | ⟨k1, k2⟩; exact Or.inl ⟨k1, by omega⟩; exact Or.inr ⟨k1, by omega⟩
  unfold f_HaulFlows_fits f_Model_fits
  simp only [hh_bind]
  rcases c0 with ⟨cy0, p0⟩ | ⟨cy0, p0⟩
  case inr =>
    have my : f_Model_isIn x1.toInt64 0 3 = nI 0 := by rcases m0 with ⟨a, b⟩ | ⟨a, b⟩; exact absurd b p0; exact a
    simp only [cy0, my, show (nI 0 = 0) = True from eq_true (by decide), if_true]
    exact ⟨by first | trivial | rfl, h⟩
  have my0 : f_Model_isIn x1.toInt64 0 3 = nI 1 := by rcases m0 with ⟨a, b⟩ | ⟨a, b⟩; exact a; exact absurd p0 b
  simp only [cy0, my0, show (nI 1 = 0) = False from eq_false (by decide), if_false]
  rcases c1 with ⟨cy1, p1⟩ | ⟨cy1, p1⟩
  case inr =>
    have my : f_Model_isIn x2.toInt64 0 ((nI VS2).toInt64 - 1) = nI 0 := by rcases m1 with ⟨a, b⟩ | ⟨a, b⟩; exact absurd b p1; exact a
    simp only [cy1, my, show (nI 0 = 0) = True from eq_true (by decide), if_true]
    exact ⟨by first | trivial | rfl, h⟩
  have my1 : f_Model_isIn x2.toInt64 0 ((nI VS2).toInt64 - 1) = nI 1 := by rcases m1 with ⟨a, b⟩ | ⟨a, b⟩; exact a; exact absurd p1 b
  simp only [cy1, my1, show (nI 1 = 0) = False from eq_false (by decide), if_false]
  have k3 := hy_clamp p0.1
  have k4 := hy_clamp p1.1
  unfold f_Site_setFit
  by_cases e : x3 = 0
  · rw [if_pos e, if_pos e]
    refine ⟨by first | trivial | rfl, ⟨⟨⟨rfl, rfl, rfl, rfl, rfl, rfl, rfl, rfl, rfl, rfl, rfl, rfl, rfl, rfl, rfl, rfl⟩, ⟨b1, b2, b3, b4, b5, b6, b7⟩, h6, h8, hb_bits_put hbits (by omega) (by omega), hbars, hv⟩, ⟨q1, q2, q3⟩, rfl, Nat.zero_le _, fun z => absurd (show 0 = 1 from z) (by decide), fun z => absurd (show 0 = 2 from z) (by decide)⟩⟩
  · rw [if_neg e, if_neg e]
    refine ⟨by first | trivial | rfl, ⟨⟨⟨rfl, rfl, rfl, rfl, rfl, rfl, rfl, rfl, rfl, rfl, rfl, rfl, rfl, rfl, rfl, rfl⟩, ⟨b1, b2, b3, b4, b5, b6, b7⟩, h6, h8, hb_bits_take hbits (by omega) (by omega), hbars, hv⟩, ⟨q1, q2, q3⟩, rfl, Nat.zero_le _, fun z => absurd (show 0 = 1 from z) (by decide), fun z => absurd (show 0 = 2 from z) (by decide)⟩⟩
theorem hi_way_is : hi_way hi_Inv := by
  intro VH0 VS0 VS1 VS2 NS0 NS1 NS2 LS0 LS1 LS2 LS3 LS4 LS5 LS6 LS7 LS8 IS0 VY0 LY0 LY1 LY2 IY0 VP0 VP1 VP2 NP0 LP0 LP1 LP2 LP3 LP4 IP0 IP1 VQ0 VQ1 VQ2 NQ0 LQ0 LQ1 LQ2 LQ3 LQ4 IQ0 IQ1 VT0 NT0 NT1 LT0 IT0 VM0 VM1 VM2 VM3 VM4 VM5 WM0 NM0 NM1 NM2 LM0 LM1 LM2 LM3 LM4 LM5 LM6 LM7 LM8 LM9 LM10 LM11 LM12 LM13 LM14 LM15 IM0 IM1 IM2 IM3 x1 x3 x5 h
  obtain ⟨⟨⟨e1, e2, e3, e4, e5, e6, e7, e8, e9, e10, e11, e12, e13, e14, e15, e16⟩, ⟨b1, b2, b3, b4, b5, b6, b7⟩, h6, h8, hbits, hbars, hv⟩, ⟨q1, q2, q3⟩, hst, h2, hpl, hcl⟩ := id h
  subst e1 e2 e3 e4 e5 e6 e7 e8 e9 e10 e11 e12 e13 e14 e15 e16
  obtain ⟨v0, v1, v2, v2p, v3, v4, v5, v6, v7, v8, v9, v10, v11⟩ := id hv
  have one : (1 : Int64).toInt = 1 := by decide
  have z64 : (0 : Int64).toInt = 0 := by decide
  have m6 : (1000000 : Int64).toInt = 1000000 := by decide
  have m5 : (100000 : Int64).toInt = 100000 := by decide
  have m3 : (1000 : Int64).toInt = 1000 := by decide
  have m7 : (10000000 : Int64).toInt = 10000000 := by decide
  have n3 : (3 : Int64).toInt = 3 := by decide
  have n11 : (11 : Int64).toInt = 11 := by decide
  have c0 : (f_HaulFlows_isMetre x1 = nI 1 ∧ (0 ≤ x1.toInt ∧ x1.toInt ≤ 100000)) ∨ (f_HaulFlows_isMetre x1 = nI 0 ∧ ¬ (0 ≤ x1.toInt ∧ x1.toInt ≤ 100000)) := by have k := hy_in x1 0 100000; rw [z64, m5] at k; exact k
  have m0 : (f_Model_isIn x1 0 100000 = nI 1 ∧ (0 ≤ x1.toInt ∧ x1.toInt ≤ 100000)) ∨ (f_Model_isIn x1 0 100000 = nI 0 ∧ ¬ (0 ≤ x1.toInt ∧ x1.toInt ≤ 100000)) := by have k := hy_in x1 0 100000; rw [z64, m5] at k; exact k
  have c1 : (f_HaulFlows_isMetre x3 = nI 1 ∧ (0 ≤ x3.toInt ∧ x3.toInt ≤ 100000)) ∨ (f_HaulFlows_isMetre x3 = nI 0 ∧ ¬ (0 ≤ x3.toInt ∧ x3.toInt ≤ 100000)) := by have k := hy_in x3 0 100000; rw [z64, m5] at k; exact k
  have m1 : (f_Model_isIn x3 0 100000 = nI 1 ∧ (0 ≤ x3.toInt ∧ x3.toInt ≤ 100000)) ∨ (f_Model_isIn x3 0 100000 = nI 0 ∧ ¬ (0 ≤ x3.toInt ∧ x3.toInt ≤ 100000)) := by have k := hy_in x3 0 100000; rw [z64, m5] at k; exact k
  have c2 : (f_HaulFlows_isCents x5 = nI 1 ∧ (0 ≤ x5.toInt ∧ x5.toInt ≤ 100000)) ∨ (f_HaulFlows_isCents x5 = nI 0 ∧ ¬ (0 ≤ x5.toInt ∧ x5.toInt ≤ 100000)) := by have k := hy_in x5 0 100000; rw [z64, m5] at k; exact k
  have m2 : (f_Model_isIn x5 0 100000 = nI 1 ∧ (0 ≤ x5.toInt ∧ x5.toInt ≤ 100000)) ∨ (f_Model_isIn x5 0 100000 = nI 0 ∧ ¬ (0 ≤ x5.toInt ∧ x5.toInt ≤ 100000)) := by have k := hy_in x5 0 100000; rw [z64, m5] at k; exact k
  unfold f_HaulFlows_way f_Model_way
  simp only [hh_bind]
  rcases c0 with ⟨cy0, p0⟩ | ⟨cy0, p0⟩
  case inr =>
    have my : f_Model_isIn x1 0 100000 = nI 0 := by rcases m0 with ⟨a, b⟩ | ⟨a, b⟩; exact absurd b p0; exact a
    simp only [cy0, my, show (nI 0 = 0) = True from eq_true (by decide), if_true]
    exact ⟨by first | trivial | rfl, h⟩
  have my0 : f_Model_isIn x1 0 100000 = nI 1 := by rcases m0 with ⟨a, b⟩ | ⟨a, b⟩; exact a; exact absurd p0 b
  simp only [cy0, my0, show (nI 1 = 0) = False from eq_false (by decide), if_false]
  rcases c1 with ⟨cy1, p1⟩ | ⟨cy1, p1⟩
  case inr =>
    have my : f_Model_isIn x3 0 100000 = nI 0 := by rcases m1 with ⟨a, b⟩ | ⟨a, b⟩; exact absurd b p1; exact a
    simp only [cy1, my, show (nI 0 = 0) = True from eq_true (by decide), if_true]
    exact ⟨by first | trivial | rfl, h⟩
  have my1 : f_Model_isIn x3 0 100000 = nI 1 := by rcases m1 with ⟨a, b⟩ | ⟨a, b⟩; exact a; exact absurd p1 b
  simp only [cy1, my1, show (nI 1 = 0) = False from eq_false (by decide), if_false]
  rcases c2 with ⟨cy2, p2⟩ | ⟨cy2, p2⟩
  case inr =>
    have my : f_Model_isIn x5 0 100000 = nI 0 := by rcases m2 with ⟨a, b⟩ | ⟨a, b⟩; exact absurd b p2; exact a
    simp only [cy2, my, show (nI 0 = 0) = True from eq_true (by decide), if_true]
    exact ⟨by first | trivial | rfl, h⟩
  have my2 : f_Model_isIn x5 0 100000 = nI 1 := by rcases m2 with ⟨a, b⟩ | ⟨a, b⟩; exact a; exact absurd p2 b
  simp only [cy2, my2, show (nI 1 = 0) = False from eq_false (by decide), if_false]
  by_cases cl : VY0 < 6
  case neg =>
    rw [if_neg cl, if_pos (show VY0 = 6 by omega)]
    exact ⟨by first | trivial | rfl, h⟩
  rw [if_pos cl, if_neg (show ¬ VY0 = 6 by omega)]
  refine ⟨by first | trivial | rfl, ⟨⟨⟨rfl, rfl, rfl, rfl, rfl, rfl, rfl, rfl, rfl, rfl, rfl, rfl, rfl, rfl, rfl, rfl⟩, ⟨b1, b2, by show VY0 + 1 ≤ 6; omega, b4, b5, b6, b7⟩, h6, h8, hbits, hbars, ⟨v0, v1, v2, v2p, v3, v4, v5, hv_r_upd v6 p0, hv_r_upd v7 p1, hv_r_upd v8 p2, v9, v10, v11⟩⟩, ⟨q1, q2, q3⟩, rfl, Nat.zero_le _, fun z => absurd (show 0 = 1 from z) (by decide), fun z => absurd (show 0 = 2 from z) (by decide)⟩⟩
theorem hi_borrow_is : hi_borrow hi_Inv := by
  intro VH0 VS0 VS1 VS2 NS0 NS1 NS2 LS0 LS1 LS2 LS3 LS4 LS5 LS6 LS7 LS8 IS0 VY0 LY0 LY1 LY2 IY0 VP0 VP1 VP2 NP0 LP0 LP1 LP2 LP3 LP4 IP0 IP1 VQ0 VQ1 VQ2 NQ0 LQ0 LQ1 LQ2 LQ3 LQ4 IQ0 IQ1 VT0 NT0 NT1 LT0 IT0 VM0 VM1 VM2 VM3 VM4 VM5 WM0 NM0 NM1 NM2 LM0 LM1 LM2 LM3 LM4 LM5 LM6 LM7 LM8 LM9 LM10 LM11 LM12 LM13 LM14 LM15 IM0 IM1 IM2 IM3 x1 x3 h
  obtain ⟨⟨⟨e1, e2, e3, e4, e5, e6, e7, e8, e9, e10, e11, e12, e13, e14, e15, e16⟩, ⟨b1, b2, b3, b4, b5, b6, b7⟩, h6, h8, hbits, hbars, hv⟩, ⟨q1, q2, q3⟩, hst, h2, hpl, hcl⟩ := id h
  subst e1 e2 e3 e4 e5 e6 e7 e8 e9 e10 e11 e12 e13 e14 e15 e16
  obtain ⟨v0, v1, v2, v2p, v3, v4, v5, v6, v7, v8, v9, v10, v11⟩ := id hv
  have one : (1 : Int64).toInt = 1 := by decide
  have z64 : (0 : Int64).toInt = 0 := by decide
  have m6 : (1000000 : Int64).toInt = 1000000 := by decide
  have m5 : (100000 : Int64).toInt = 100000 := by decide
  have m3 : (1000 : Int64).toInt = 1000 := by decide
  have m7 : (10000000 : Int64).toInt = 10000000 := by decide
  have n3 : (3 : Int64).toInt = 3 := by decide
  have n11 : (11 : Int64).toInt = 11 := by decide
  have c0 : (f_HaulFlows_isMetre x1 = nI 1 ∧ (0 ≤ x1.toInt ∧ x1.toInt ≤ 100000)) ∨ (f_HaulFlows_isMetre x1 = nI 0 ∧ ¬ (0 ≤ x1.toInt ∧ x1.toInt ≤ 100000)) := by have k := hy_in x1 0 100000; rw [z64, m5] at k; exact k
  have m0 : (f_Model_isIn x1 0 100000 = nI 1 ∧ (0 ≤ x1.toInt ∧ x1.toInt ≤ 100000)) ∨ (f_Model_isIn x1 0 100000 = nI 0 ∧ ¬ (0 ≤ x1.toInt ∧ x1.toInt ≤ 100000)) := by have k := hy_in x1 0 100000; rw [z64, m5] at k; exact k
  have c1 : (f_HaulFlows_isCents x3 = nI 1 ∧ (0 ≤ x3.toInt ∧ x3.toInt ≤ 100000)) ∨ (f_HaulFlows_isCents x3 = nI 0 ∧ ¬ (0 ≤ x3.toInt ∧ x3.toInt ≤ 100000)) := by have k := hy_in x3 0 100000; rw [z64, m5] at k; exact k
  have m1 : (f_Model_isIn x3 0 100000 = nI 1 ∧ (0 ≤ x3.toInt ∧ x3.toInt ≤ 100000)) ∨ (f_Model_isIn x3 0 100000 = nI 0 ∧ ¬ (0 ≤ x3.toInt ∧ x3.toInt ≤ 100000)) := by have k := hy_in x3 0 100000; rw [z64, m5] at k; exact k
  unfold f_HaulFlows_borrow f_Model_borrow
  simp only [hh_bind]
  rcases c0 with ⟨cy0, p0⟩ | ⟨cy0, p0⟩
  case inr =>
    have my : f_Model_isIn x1 0 100000 = nI 0 := by rcases m0 with ⟨a, b⟩ | ⟨a, b⟩; exact absurd b p0; exact a
    simp only [cy0, my, show (nI 0 = 0) = True from eq_true (by decide), if_true]
    exact ⟨by first | trivial | rfl, h⟩
  have my0 : f_Model_isIn x1 0 100000 = nI 1 := by rcases m0 with ⟨a, b⟩ | ⟨a, b⟩; exact a; exact absurd p0 b
  simp only [cy0, my0, show (nI 1 = 0) = False from eq_false (by decide), if_false]
  rcases c1 with ⟨cy1, p1⟩ | ⟨cy1, p1⟩
  case inr =>
    have my : f_Model_isIn x3 0 100000 = nI 0 := by rcases m1 with ⟨a, b⟩ | ⟨a, b⟩; exact absurd b p1; exact a
    simp only [cy1, my, show (nI 0 = 0) = True from eq_true (by decide), if_true]
    exact ⟨by first | trivial | rfl, h⟩
  have my1 : f_Model_isIn x3 0 100000 = nI 1 := by rcases m1 with ⟨a, b⟩ | ⟨a, b⟩; exact a; exact absurd p1 b
  simp only [cy1, my1, show (nI 1 = 0) = False from eq_false (by decide), if_false]
  by_cases cl : VS1 < 4
  case neg =>
    rw [if_neg cl, if_pos (show VS1 = 4 by omega)]
    exact ⟨by first | trivial | rfl, h⟩
  rw [if_pos cl, if_neg (show ¬ VS1 = 4 by omega)]
  refine ⟨by first | trivial | rfl, ⟨⟨⟨rfl, rfl, rfl, rfl, rfl, rfl, rfl, rfl, rfl, rfl, rfl, rfl, rfl, rfl, rfl, rfl⟩, ⟨b1, b2, b3, by show VS1 + 1 ≤ 4; omega, b5, b6, b7⟩, h6, h8, hbits, hbars, ⟨v0, v1, v2, v2p, v3, v4, v5, v6, v7, v8, hv_r_upd v9 p0, hv_r_upd v10 p1, v11⟩⟩, ⟨q1, q2, q3⟩, rfl, Nat.zero_le _, fun z => absurd (show 0 = 1 from z) (by decide), fun z => absurd (show 0 = 2 from z) (by decide)⟩⟩
theorem hi_most_is : hi_most hi_Inv := by
  intro VH0 VS0 VS1 VS2 NS0 NS1 NS2 LS0 LS1 LS2 LS3 LS4 LS5 LS6 LS7 LS8 IS0 VY0 LY0 LY1 LY2 IY0 VP0 VP1 VP2 NP0 LP0 LP1 LP2 LP3 LP4 IP0 IP1 VQ0 VQ1 VQ2 NQ0 LQ0 LQ1 LQ2 LQ3 LQ4 IQ0 IQ1 VT0 NT0 NT1 LT0 IT0 VM0 VM1 VM2 VM3 VM4 VM5 WM0 NM0 NM1 NM2 LM0 LM1 LM2 LM3 LM4 LM5 LM6 LM7 LM8 LM9 LM10 LM11 LM12 LM13 LM14 LM15 IM0 IM1 IM2 IM3 x1 x2 h
  obtain ⟨⟨⟨e1, e2, e3, e4, e5, e6, e7, e8, e9, e10, e11, e12, e13, e14, e15, e16⟩, ⟨b1, b2, b3, b4, b5, b6, b7⟩, h6, h8, hbits, hbars, hv⟩, ⟨q1, q2, q3⟩, hst, h2, hpl, hcl⟩ := id h
  subst e1 e2 e3 e4 e5 e6 e7 e8 e9 e10 e11 e12 e13 e14 e15 e16
  obtain ⟨v0, v1, v2, v2p, v3, v4, v5, v6, v7, v8, v9, v10, v11⟩ := id hv
  have one : (1 : Int64).toInt = 1 := by decide
  have z64 : (0 : Int64).toInt = 0 := by decide
  have m6 : (1000000 : Int64).toInt = 1000000 := by decide
  have m5 : (100000 : Int64).toInt = 100000 := by decide
  have m3 : (1000 : Int64).toInt = 1000 := by decide
  have m7 : (10000000 : Int64).toInt = 10000000 := by decide
  have n3 : (3 : Int64).toInt = 3 := by decide
  have n11 : (11 : Int64).toInt = 11 := by decide
  have c0 : (f_HaulFlows_isBelow x1 (nI 12) = nI 1 ∧ (0 ≤ x1.toInt ∧ x1.toInt < 12)) ∨ (f_HaulFlows_isBelow x1 (nI 12) = nI 0 ∧ ¬ (0 ≤ x1.toInt ∧ x1.toInt < 12)) := hy_below x1 (show 12 < 2 ^ 31 by omega)
  have m0 : (f_Model_isIn x1.toInt64 0 11 = nI 1 ∧ (0 ≤ x1.toInt ∧ x1.toInt < 12)) ∨ (f_Model_isIn x1.toInt64 0 11 = nI 0 ∧ ¬ (0 ≤ x1.toInt ∧ x1.toInt < 12)) := by have k := hy_in x1.toInt64 0 11; rw [z64, n11, hy_64] at k; rcases k with ⟨k1, k2⟩ | ⟨k1, k2⟩; exact Or.inl ⟨k1, by omega⟩; exact Or.inr ⟨k1, by omega⟩
  unfold f_HaulFlows_most f_Model_most
  simp only [hh_bind]
  rcases c0 with ⟨cy0, p0⟩ | ⟨cy0, p0⟩
  case inr =>
    have my : f_Model_isIn x1.toInt64 0 11 = nI 0 := by rcases m0 with ⟨a, b⟩ | ⟨a, b⟩; exact absurd b p0; exact a
    simp only [cy0, my, show (nI 0 = 0) = True from eq_true (by decide), if_true]
    exact ⟨by first | trivial | rfl, h⟩
  have my0 : f_Model_isIn x1.toInt64 0 11 = nI 1 := by rcases m0 with ⟨a, b⟩ | ⟨a, b⟩; exact a; exact absurd p0 b
  simp only [cy0, my0, show (nI 1 = 0) = False from eq_false (by decide), if_false]
  have k3 := hy_clamp p0.1
  have mm := hy_in x2 0 10000000
  rw [z64, m7] at mm
  by_cases ok : 0 ≤ x2.toInt ∧ x2.toInt ≤ 10000000
  · have my : f_Model_isIn x2 0 10000000 = nI 1 := by rcases mm with ⟨a, b⟩ | ⟨a, b⟩; exact a; exact absurd ok b
    rw [my, if_neg (show ¬ x2 < 0 by rw [h64_lt, z64]; omega), if_pos (show x2 ≤ 10000000 by rw [h64_le, m7]; omega), if_neg (show ¬ nI 1 = 0 by decide)]
    refine ⟨by first | trivial | rfl, ⟨⟨⟨rfl, rfl, rfl, rfl, rfl, rfl, rfl, rfl, rfl, rfl, rfl, rfl, rfl, rfl, rfl, rfl⟩, ⟨b1, b2, b3, b4, b5, b6, b7⟩, h6, fun w hw => ?_, hbits, hbars, ⟨v0, v1, v2, v2p, v3, v4, v5, v6, v7, v8, v9, v10, fun w hw => ?_⟩⟩, ⟨q1, q2, q3⟩, rfl, Nat.zero_le _, fun z => absurd (show 0 = 1 from z) (by decide), fun z => absurd (show 0 = 2 from z) (by decide)⟩⟩
    · show vp_updL LS8 x1.toNatClampNeg x2 w = vp_updL LM11 x1.toNatClampNeg x2 w ∨ (vp_updL LS8 x1.toNatClampNeg x2 w = 1099511627776 ∧ vp_updL LM11 x1.toNatClampNeg x2 w = 1000000000000)
      by_cases e : w = x1.toNatClampNeg
      · rw [e, hp_updL, hp_updL]; exact Or.inl rfl
      · rw [hp_updLn _ _ e, hp_updLn _ _ e]; exact h8 w hw
    · show 0 ≤ (vp_updL LM11 x1.toNatClampNeg x2 w).toInt ∧ (vp_updL LM11 x1.toNatClampNeg x2 w).toInt ≤ 1000000000000
      by_cases e : w = x1.toNatClampNeg
      · rw [e, hp_updL]; omega
      · rw [hp_updLn _ _ e]; exact v11 w hw
  · have my : f_Model_isIn x2 0 10000000 = nI 0 := by rcases mm with ⟨a, b⟩ | ⟨a, b⟩; exact absurd b ok; exact a
    rw [my, if_pos (show nI 0 = 0 by decide)]
    by_cases c1 : x2 < 0
    · rw [if_pos c1]
      exact ⟨by first | trivial | rfl, h⟩
    · rw [if_neg c1, if_neg (show ¬ x2 ≤ 10000000 by rw [h64_lt, z64] at c1; rw [h64_le, m7]; omega)]
      exact ⟨by first | trivial | rfl, h⟩
theorem hy_shut {x1 x3 : Int32} (hk : x1.toNatClampNeg < 6) (hb : x3.toNatClampNeg < 12) : ∀ (n w : Nat) (IY IM : Nat → Int32), hb_bars IY IM → (f_Model_bar_h51 x3 x1 f_Model_bar_x51 n w IM).1 = nI 1 ∧ (f_Model_bar_h51 x3 x1 f_Model_bar_x51 n w IM).2.1 = 0 ∧ (f_Model_bar_h51 x3 x1 f_Model_bar_x51 n w IM).2.2.1 = 0 ∧ hb_bars (f_Ways_shut_h3 x3.toNatClampNeg x1.toNatClampNeg f_Ways_shut_x3 n w IY) (f_Model_bar_h51 x3 x1 f_Model_bar_x51 n w IM).2.2.2 := by
  intro n
  induction n with
  | zero => exact fun w IY IM h => ⟨rfl, rfl, rfl, h⟩
  | succ n ih =>
    intro w IY IM h
    rw [f_Model_bar_h51, f_Ways_shut_h3]
    unfold f_Model_bar_h51B f_Ways_shut_h3B
    by_cases c : x3.toNatClampNeg < w
    · rw [if_pos c, if_pos c]
      exact ⟨rfl, rfl, rfl, h⟩
    · rw [if_neg c, if_neg c]
      exact ih (w + 1) _ _ (hb_bars_put h hk (by omega))
theorem hi_bar_is : hi_bar hi_Inv := by
  intro VH0 VS0 VS1 VS2 NS0 NS1 NS2 LS0 LS1 LS2 LS3 LS4 LS5 LS6 LS7 LS8 IS0 VY0 LY0 LY1 LY2 IY0 VP0 VP1 VP2 NP0 LP0 LP1 LP2 LP3 LP4 IP0 IP1 VQ0 VQ1 VQ2 NQ0 LQ0 LQ1 LQ2 LQ3 LQ4 IQ0 IQ1 VT0 NT0 NT1 LT0 IT0 VM0 VM1 VM2 VM3 VM4 VM5 WM0 NM0 NM1 NM2 LM0 LM1 LM2 LM3 LM4 LM5 LM6 LM7 LM8 LM9 LM10 LM11 LM12 LM13 LM14 LM15 IM0 IM1 IM2 IM3 x1 x2 x3 h
  obtain ⟨⟨⟨e1, e2, e3, e4, e5, e6, e7, e8, e9, e10, e11, e12, e13, e14, e15, e16⟩, ⟨b1, b2, b3, b4, b5, b6, b7⟩, h6, h8, hbits, hbars, hv⟩, ⟨q1, q2, q3⟩, hst, h2, hpl, hcl⟩ := id h
  subst e1 e2 e3 e4 e5 e6 e7 e8 e9 e10 e11 e12 e13 e14 e15 e16
  obtain ⟨v0, v1, v2, v2p, v3, v4, v5, v6, v7, v8, v9, v10, v11⟩ := id hv
  have one : (1 : Int64).toInt = 1 := by decide
  have z64 : (0 : Int64).toInt = 0 := by decide
  have m6 : (1000000 : Int64).toInt = 1000000 := by decide
  have m5 : (100000 : Int64).toInt = 100000 := by decide
  have m3 : (1000 : Int64).toInt = 1000 := by decide
  have m7 : (10000000 : Int64).toInt = 10000000 := by decide
  have n3 : (3 : Int64).toInt = 3 := by decide
  have n11 : (11 : Int64).toInt = 11 := by decide
  have c0 : (f_HaulFlows_isBelow x1 (nI VY0) = nI 1 ∧ (0 ≤ x1.toInt ∧ x1.toInt < VY0)) ∨ (f_HaulFlows_isBelow x1 (nI VY0) = nI 0 ∧ ¬ (0 ≤ x1.toInt ∧ x1.toInt < VY0)) := hy_below x1 (show VY0 < 2 ^ 31 by omega)
  have m0 : (f_Model_isIn x1.toInt64 0 ((nI VY0).toInt64 - 1) = nI 1 ∧ (0 ≤ x1.toInt ∧ x1.toInt < VY0)) ∨ (f_Model_isIn x1.toInt64 0 ((nI VY0).toInt64 - 1) = nI 0 ∧ ¬ (0 ≤ x1.toInt ∧ x1.toInt < VY0)) := by have k := hy_in x1.toInt64 0 ((nI VY0).toInt64 - 1); rw [z64, hy_n64 (by omega), hy_64] at k; rcases k with ⟨k1, k2⟩ | ⟨k1, k2⟩; exact Or.inl ⟨k1, by omega⟩; exact Or.inr ⟨k1, by omega⟩
  have c1 : (f_HaulFlows_isBelow x2 (nI 12) = nI 1 ∧ (0 ≤ x2.toInt ∧ x2.toInt < 12)) ∨ (f_HaulFlows_isBelow x2 (nI 12) = nI 0 ∧ ¬ (0 ≤ x2.toInt ∧ x2.toInt < 12)) := hy_below x2 (show 12 < 2 ^ 31 by omega)
  have m1 : (f_Model_isIn x2.toInt64 0 11 = nI 1 ∧ (0 ≤ x2.toInt ∧ x2.toInt < 12)) ∨ (f_Model_isIn x2.toInt64 0 11 = nI 0 ∧ ¬ (0 ≤ x2.toInt ∧ x2.toInt < 12)) := by have k := hy_in x2.toInt64 0 11; rw [z64, n11, hy_64] at k; rcases k with ⟨k1, k2⟩ | ⟨k1, k2⟩; exact Or.inl ⟨k1, by omega⟩; exact Or.inr ⟨k1, by omega⟩
  unfold f_HaulFlows_bar f_Model_bar
  simp only [hh_bind]
  rcases c0 with ⟨cy0, p0⟩ | ⟨cy0, p0⟩
  case inr =>
    have my : f_Model_isIn x1.toInt64 0 ((nI VY0).toInt64 - 1) = nI 0 := by rcases m0 with ⟨a, b⟩ | ⟨a, b⟩; exact absurd b p0; exact a
    simp only [cy0, my, show (nI 0 = 0) = True from eq_true (by decide), if_true]
    exact ⟨by first | trivial | rfl, h⟩
  have my0 : f_Model_isIn x1.toInt64 0 ((nI VY0).toInt64 - 1) = nI 1 := by rcases m0 with ⟨a, b⟩ | ⟨a, b⟩; exact a; exact absurd p0 b
  simp only [cy0, my0, show (nI 1 = 0) = False from eq_false (by decide), if_false]
  rcases c1 with ⟨cy1, p1⟩ | ⟨cy1, p1⟩
  case inr =>
    have my : f_Model_isIn x2.toInt64 0 11 = nI 0 := by rcases m1 with ⟨a, b⟩ | ⟨a, b⟩; exact absurd b p1; exact a
    simp only [cy1, my, show (nI 0 = 0) = True from eq_true (by decide), if_true]
    exact ⟨by first | trivial | rfl, h⟩
  have my1 : f_Model_isIn x2.toInt64 0 11 = nI 1 := by rcases m1 with ⟨a, b⟩ | ⟨a, b⟩; exact a; exact absurd p1 b
  simp only [cy1, my1, show (nI 1 = 0) = False from eq_false (by decide), if_false]
  have k3 := hy_clamp p0.1
  have k4 := hy_clamp p1.1
  have mm := hy_in x3.toInt64 x2.toInt64 11
  rw [n11, hy_64, hy_64] at mm
  have cc := hy_below x3 (show 12 < 2 ^ 31 by omega)
  by_cases ok : x2.toInt ≤ x3.toInt ∧ x3.toInt ≤ 11
  · have my : f_Model_isIn x3.toInt64 x2.toInt64 11 = nI 1 := by rcases mm with ⟨a, b⟩ | ⟨a, b⟩; exact a; exact absurd ok b
    have cy : f_HaulFlows_isBelow x3 (nI 12) = nI 1 := by rcases cc with ⟨a, b⟩ | ⟨a, b⟩; exact a; exact absurd (show 0 ≤ x3.toInt ∧ x3.toInt < 12 by omega) b
    have k5 := hy_clamp (show 0 ≤ x3.toInt by omega)
    rw [my, cy, if_neg (show ¬ nI 1 = 0 by decide), if_neg (show ¬ nI 1 = 0 by decide), if_pos (show x2 ≤ x3 by rw [Int32.le_iff_toInt_le]; exact ok.1)]
    have sh := hy_shut (x1 := x1) (x3 := x3) (by omega) (by omega) 13 x2.toNatClampNeg IY0 IM1 hbars
    have eS : f_Ways_shut IY0 x1.toNatClampNeg x2.toNatClampNeg x3.toNatClampNeg = f_Ways_shut_h3 x3.toNatClampNeg x1.toNatClampNeg f_Ways_shut_x3 13 x2.toNatClampNeg IY0 := rfl
    rw [eS]
    generalize f_Model_bar_h51 x3 x1 f_Model_bar_x51 13 x2.toNatClampNeg IM1 = r at sh ⊢
    obtain ⟨r1, r2, r3, r4⟩ := r
    obtain ⟨s1, s2, s3, s4⟩ := sh
    have s1' : r1 = nI 1 := s1
    have s3' : r3 = 0 := s3
    subst s1' s3'
    refine ⟨by first | trivial | rfl, ⟨⟨⟨rfl, rfl, rfl, rfl, rfl, rfl, rfl, rfl, rfl, rfl, rfl, rfl, rfl, rfl, rfl, rfl⟩, ⟨b1, b2, b3, b4, b5, b6, b7⟩, h6, h8, hbits, s4, hv⟩, ⟨q1, q2, q3⟩, rfl, Nat.zero_le _, fun z => absurd (show 0 = 1 from z) (by decide), fun z => absurd (show 0 = 2 from z) (by decide)⟩⟩
  · have my : f_Model_isIn x3.toInt64 x2.toInt64 11 = nI 0 := by rcases mm with ⟨a, b⟩ | ⟨a, b⟩; exact absurd b ok; exact a
    rw [my, if_pos (show nI 0 = 0 by decide)]
    rcases cc with ⟨cy, b⟩ | ⟨cy, b⟩
    · rw [cy, if_neg (show ¬ nI 1 = 0 by decide), if_neg (show ¬ x2 ≤ x3 by rw [Int32.le_iff_toInt_le]; omega)]
      exact ⟨by first | trivial | rfl, h⟩
    · rw [cy, if_pos (show nI 0 = 0 by decide)]
      exact ⟨by first | trivial | rfl, h⟩
