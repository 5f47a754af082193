/-! ===== bits of a word ===== -/
theorem hb_cases {P : Nat → Prop} (h0 : P 0) (h1 : P 1) (h2 : P 2) (h3 : P 3) (h4 : P 4) (h5 : P 5) (h6 : P 6) (h7 : P 7) (h8 : P 8) (h9 : P 9) (h10 : P 10) (h11 : P 11) : ∀ f, f < 12 → P f := by
  intro f hf
  match f, hf with
  | 0, _ => exact h0
  | 1, _ => exact h1
  | 2, _ => exact h2
  | 3, _ => exact h3
  | 4, _ => exact h4
  | 5, _ => exact h5
  | 6, _ => exact h6
  | 7, _ => exact h7
  | 8, _ => exact h8
  | 9, _ => exact h9
  | 10, _ => exact h10
  | 11, _ => exact h11
  | n + 12, h => omega
theorem hb_shift (x : Int32) : ∀ f, f < 12 → ((x >>> ((nI f) &&& 31)) &&& nI 1).toBitVec = (x.toBitVec.sshiftRight f) &&& 1#32 := by
  refine hb_cases ?_ ?_ ?_ ?_ ?_ ?_ ?_ ?_ ?_ ?_ ?_ ?_ <;> rfl
theorem hb_one : ∀ f, f < 12 → ((nI 1) <<< ((nI f) &&& 31)).toBitVec = BitVec.twoPow 32 f := by
  refine hb_cases ?_ ?_ ?_ ?_ ?_ ?_ ?_ ?_ ?_ ?_ ?_ ?_ <;> decide
theorem hb_and1 (v : BitVec 32) : v &&& 1#32 = if v.getLsbD 0 = true then 1#32 else 0#32 := by
  apply BitVec.eq_of_getLsbD_eq
  intro i hi
  rw [BitVec.getLsbD_and]
  by_cases c : v.getLsbD 0 = true
  · rw [if_pos c]
    by_cases e : i = 0
    · subst e; rw [c]; rfl
    · have : (1#32).getLsbD i = false := by
        rw [BitVec.getLsbD_one]
        simp [e]
      rw [this, Bool.and_false]
  · rw [if_neg c]
    by_cases e : i = 0
    · subst e
      rw [Bool.not_eq_true] at c
      rw [c]; rfl
    · have : (1#32).getLsbD i = false := by
        rw [BitVec.getLsbD_one]
        simp [e]
      rw [this, Bool.and_false]
      simp
theorem hb_bit (x : Int32) {f : Nat} (hf : f < 12) : (((x >>> ((nI f) &&& 31)) &&& nI 1 = 0) ↔ x.toBitVec.getLsbD f = false) ∧ (((x >>> ((nI f) &&& 31)) &&& nI 1 = nI 1) ↔ x.toBitVec.getLsbD f = true) := by
  have e := hb_shift x f hf
  rw [hb_and1] at e
  have g : (x.toBitVec.sshiftRight f).getLsbD 0 = x.toBitVec.getLsbD f := by
    rw [BitVec.getLsbD_sshiftRight]
    simp
    omega
  rw [g] at e
  by_cases c : x.toBitVec.getLsbD f = true
  · rw [if_pos c] at e
    have e1 : (x >>> ((nI f) &&& 31)) &&& nI 1 = nI 1 := Int32.toBitVec_inj.mp e
    rw [e1, c]
    decide
  · rw [if_neg c] at e
    have e1 : (x >>> ((nI f) &&& 31)) &&& nI 1 = 0 := Int32.toBitVec_inj.mp e
    rw [Bool.not_eq_true] at c
    rw [e1, c]
    decide
theorem hb_or (x : Int32) {f g : Nat} (hf : f < 12) (hg : g < 12) : (x ||| ((nI 1) <<< ((nI f) &&& 31))).toBitVec.getLsbD g = (x.toBitVec.getLsbD g || decide (f = g)) := by
  rw [Int32.toBitVec_or, hb_one f hf, BitVec.getLsbD_or, BitVec.getLsbD_twoPow]
  have : decide (f < 32) = true := decide_eq_true (by omega)
  rw [this, Bool.true_and]
theorem hb_andn (x : Int32) {f g : Nat} (hf : f < 12) (hg : g < 12) : (x &&& (((nI 1) <<< ((nI f) &&& 31)) ^^^ (-1))).toBitVec.getLsbD g = (x.toBitVec.getLsbD g && !decide (f = g)) := by
  rw [Int32.toBitVec_and, Int32.toBitVec_xor, hb_one f hf, BitVec.getLsbD_and, BitVec.getLsbD_xor, BitVec.getLsbD_twoPow]
  have : decide (f < 32) = true := decide_eq_true (by omega)
  have e1 : (-1 : Int32).toBitVec = BitVec.allOnes 32 := by decide
  rw [this, Bool.true_and, e1, BitVec.getLsbD_allOnes, decide_eq_true (show g < 32 by omega), Bool.xor_true]
theorem hb_bits_put {IS0 IM0 : Nat → Int32} (h : hb_bits IS0 IM0) {k f : Nat} (hk : k < 4) (hf : f < 8) : hb_bits (upd IS0 k ((IS0 k) ||| ((nI 1) <<< ((nI f) &&& 31)))) (upd IM0 (8 * k + f) (nI 1)) := by
  intro k' f' hk' hf'
  by_cases ek : k' = k
  · subst ek
    rw [show upd IS0 k' ((IS0 k') ||| ((nI 1) <<< ((nI f) &&& 31))) k' = (IS0 k') ||| ((nI 1) <<< ((nI f) &&& 31)) from pk_us, (hb_bit _ (show f' < 12 by omega)).1, hb_or _ (by omega) (by omega)]
    by_cases ef : f = f'
    · subst ef
      rw [show upd IM0 (8 * k' + f) (nI 1) (8 * k' + f) = nI 1 from pk_us]
      simp
      decide
    · rw [show upd IM0 (8 * k' + f) (nI 1) (8 * k' + f') = IM0 (8 * k' + f') from pk_un (by omega), decide_eq_false ef, Bool.or_false, ← (hb_bit _ (show f' < 12 by omega)).1]
      exact h k' f' hk' hf'
  · rw [show upd IS0 k ((IS0 k) ||| ((nI 1) <<< ((nI f) &&& 31))) k' = IS0 k' from pk_un ek, show upd IM0 (8 * k + f) (nI 1) (8 * k' + f') = IM0 (8 * k' + f') from pk_un (by omega)]
    exact h k' f' hk' hf'
theorem hb_bits_take {IS0 IM0 : Nat → Int32} (h : hb_bits IS0 IM0) {k f : Nat} (hk : k < 4) (hf : f < 8) : hb_bits (upd IS0 k ((IS0 k) &&& (((nI 1) <<< ((nI f) &&& 31)) ^^^ (-1)))) (upd IM0 (8 * k + f) (nI 0)) := by
  intro k' f' hk' hf'
  by_cases ek : k' = k
  · subst ek
    rw [show upd IS0 k' ((IS0 k') &&& (((nI 1) <<< ((nI f) &&& 31)) ^^^ (-1))) k' = (IS0 k') &&& (((nI 1) <<< ((nI f) &&& 31)) ^^^ (-1)) from pk_us, (hb_bit _ (show f' < 12 by omega)).1, hb_andn _ (by omega) (by omega)]
    by_cases ef : f = f'
    · subst ef
      rw [show upd IM0 (8 * k' + f) (nI 0) (8 * k' + f) = nI 0 from pk_us]
      simp
      decide
    · rw [show upd IM0 (8 * k' + f) (nI 0) (8 * k' + f') = IM0 (8 * k' + f') from pk_un (by omega), decide_eq_false ef, Bool.not_false, Bool.and_true, ← (hb_bit _ (show f' < 12 by omega)).1]
      exact h k' f' hk' hf'
  · rw [show upd IS0 k ((IS0 k) &&& (((nI 1) <<< ((nI f) &&& 31)) ^^^ (-1))) k' = IS0 k' from pk_un ek, show upd IM0 (8 * k + f) (nI 0) (8 * k' + f') = IM0 (8 * k' + f') from pk_un (by omega)]
    exact h k' f' hk' hf'
theorem hb_bars_put {IY0 IM1 : Nat → Int32} (h : hb_bars IY0 IM1) {k f : Nat} (hk : k < 6) (hf : f < 12) : hb_bars (upd IY0 k ((IY0 k) ||| ((nI 1) <<< ((nI f) &&& 31)))) (upd IM1 (12 * k + f) (nI 1)) := by
  intro k' f' hk' hf'
  by_cases ek : k' = k
  · subst ek
    rw [show upd IY0 k' ((IY0 k') ||| ((nI 1) <<< ((nI f) &&& 31))) k' = (IY0 k') ||| ((nI 1) <<< ((nI f) &&& 31)) from pk_us, (hb_bit _ hf').2, hb_or _ (by omega) (by omega)]
    by_cases ef : f = f'
    · subst ef
      rw [show upd IM1 (12 * k' + f) (nI 1) (12 * k' + f) = nI 1 from pk_us]
      simp
      decide
    · rw [show upd IM1 (12 * k' + f) (nI 1) (12 * k' + f') = IM1 (12 * k' + f') from pk_un (by omega), decide_eq_false ef, Bool.or_false, ← (hb_bit _ hf').2]
      exact h k' f' hk' hf'
  · rw [show upd IY0 k ((IY0 k) ||| ((nI 1) <<< ((nI f) &&& 31))) k' = IY0 k' from pk_un ek, show upd IM1 (12 * k + f) (nI 1) (12 * k' + f') = IM1 (12 * k' + f') from pk_un (by omega)]
    exact h k' f' hk' hf'
